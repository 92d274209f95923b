section
/-! the reference: rules of g4 -/
theorem rw_rvEN0 {K : Nat → Nat} {n : Nat} {JX : (Nat → jcell) → Prop} : aGho (rF K n) fa_T K n JX ag_rvEN0 := by
  refine aGho_of ⟨rfl, rfl⟩ ?_
  intro p σ ρ hH hX hA hM0
  have hG := aAG_of hA.1 (fun i e v he hv => (hA.2 i e v he hv).1)
  clear hA
  obtain ⟨v0, v1, v2, rfl, g0, g1, g2⟩ := rA_3 hG
  clear hG
  obtain ⟨x0, rfl, b0, d0⟩ := rG_ref (by decide) g0
  obtain ⟨x1, rfl, b1, d1⟩ := aG_int g1
  dsimp only at b1 d1
  obtain ⟨x2, rfl, b2, d2⟩ := aG_int g2
  dsimp only at b2 d2
  obtain ⟨m1, m2, m3, m4⟩ := hM0
  obtain ⟨M, hM⟩ := rMe_ex hH b0 d0
  clear m1 m2 m3 m4
  have q0 : rB K n p 88 [rR x0, rI x1, rI x2] σ := ro_88.mpr (by
    obtain ⟨g, h⟩ := rRo_ex (ko := 88) (f := 9) (kr := 91) (len := 19520) hH rfl rfl rfl (by decide) b0 d0
    exact ⟨g, h, fun _ j h1 h2 => by omega⟩)
  exact ⟨p, fun _ => rfl, ⟨(fun q h => by cases h), fun q h => (by cases h), (fun f h => by cases h), (aAllc ⟨_, rfl, (rF_b (r := 1411) (by decide) rfl).mpr q0⟩ (fun f h => by cases h))⟩, [], List.mem_cons_self, fun f h => (by cases h)⟩
theorem rw_rvENs {K : Nat → Nat} {n : Nat} {JX : (Nat → jcell) → Prop} : aGho (rF K n) fa_T K n JX ag_rvENs := by
  refine aGho_of ⟨rfl, rfl⟩ ?_
  intro p σ ρ hH hX hA hM0
  have hG := aAG_of hA.1 (fun i e v he hv => (hA.2 i e v he hv).1)
  clear hA
  obtain ⟨v0, v1, v2, v3, v4, v5, v6, rfl, g0, g1, g2, g3, g4, g5, g6⟩ := rA_7 hG
  clear hG
  obtain ⟨x0, rfl, b0, d0⟩ := rG_ref (by decide) g0
  obtain ⟨x1, rfl, b1, d1⟩ := rG_ref (by decide) g1
  obtain ⟨x2, rfl, b2, d2⟩ := aG_int g2
  dsimp only at b2 d2
  obtain ⟨x3, rfl, b3, d3⟩ := aG_int g3
  dsimp only at b3 d3
  obtain ⟨x4, rfl, b4, d4⟩ := aG_int g4
  dsimp only at b4 d4
  obtain ⟨x5, rfl, b5, d5⟩ := aG_int g5
  dsimp only at b5 d5
  obtain ⟨x6, rfl, b6, d6⟩ := rG_ref (by decide) g6
  obtain ⟨m1, m2, m3, m4⟩ := hM0
  obtain ⟨M, hM⟩ := rMe_ex hH b0 d0
  obtain ⟨a0, c0, fs0, w0, e1, s0, t0, e4⟩ := m1 (0, 2, 6) (List.mem_of_getElem? (i := 0) rfl)
  obtain rfl : x0 = a0 := Sum.inl.inj (Option.some.inj (Sum.inr.inj (Sum.inr.inj (Option.some.inj (show some (rR x0) = some _ from e1)))))
  obtain rfl : rR x6 = w0 := Option.some.inj (show some (rR x6) = some w0 from e4)
  clear e1 e4
  obtain ⟨a1, c1, fs1, w1, e1, s1, t1, e4⟩ := m1 (0, 9, 1) (List.mem_of_getElem? (i := 1) rfl)
  obtain rfl : x0 = a1 := Sum.inl.inj (Option.some.inj (Sum.inr.inj (Sum.inr.inj (Option.some.inj (show some (rR x0) = some _ from e1)))))
  obtain rfl : rR x1 = w1 := Option.some.inj (show some (rR x1) = some w1 from e4)
  clear e1 e4
  obtain ⟨a, mc0, ty0, gc0, ic0, e1, sc0, jc0, e4, e5⟩ := m2 (6, ([(3, 1)], 0), 5) (List.mem_of_getElem? (i := 0) rfl)
  obtain rfl : x6 = a := Sum.inl.inj (Option.some.inj (Sum.inr.inj (Sum.inr.inj (Option.some.inj (show some (rR x6) = some _ from e1)))))
  obtain ⟨gc0, rfl⟩ : ∃ g, gc0 = .inl g := by
    rcases gc0 with g | g
    · exact ⟨g, rfl⟩
    · exact absurd (show some (rI x5) = some (.inr (.inl (g ic0))) from e5) (fun h => by cases h)
  have sc0 : σ x6 = .inl (ty0, mc0, .inl gc0) := sc0
  have ec0 : x5 = gc0 ic0 := Sum.inl.inj (Option.some.inj (show some (rI x5) = some _ from e5))
  have kc0 : (ic0 : Int) = (1 * x3.toInt + 0) + 0 := by
    obtain ⟨z, e6, e7⟩ := e4
    obtain rfl : (1 * x3.toInt + 0) = z := Option.some.inj (show some (1 * x3.toInt + 0) = some z from e6)
    exact e7
  clear e1 e4 e5
  have l0 : 0 ≤ (1 * x4.toInt + (-64 * x2.toInt + (-1 * x3.toInt + 0))) + 0 := by
    obtain ⟨z, e6, e7⟩ := m3 ([(4, 1), (2, -64), (3, -1)], 0) (List.mem_of_getElem? (i := 0) rfl)
    obtain rfl : (1 * x4.toInt + (-64 * x2.toInt + (-1 * x3.toInt + 0))) = z := Option.some.inj (show some (1 * x4.toInt + (-64 * x2.toInt + (-1 * x3.toInt + 0))) = some z from e6)
    exact e7
  have l1 : 0 ≤ (-1 * x4.toInt + (64 * x2.toInt + (1 * x3.toInt + 0))) + 0 := by
    obtain ⟨z, e6, e7⟩ := m3 ([(4, -1), (2, 64), (3, 1)], 0) (List.mem_of_getElem? (i := 1) rfl)
    obtain rfl : (-1 * x4.toInt + (64 * x2.toInt + (1 * x3.toInt + 0))) = z := Option.some.inj (show some (-1 * x4.toInt + (64 * x2.toInt + (1 * x3.toInt + 0))) = some z from e6)
    exact e7
  have y0 : M x3.toInt = x5.toInt := rMg_c hM s0 t0 sc0 (by omega) (by omega) (by omega) ec0
  have f0 : rB K n p 22 [rR x0] σ := by
    obtain ⟨w, e6, e7⟩ := m4 (353, [0]) (List.mem_of_getElem? (i := 0) rfl)
    obtain rfl : [rR x0] = w := Option.some.inj (show some [rR x0] = some w from e6)
    exact (rF_b (r := 353) (by decide) rfl).mp e7
  obtain ⟨hp, hR⟩ := ro_22.mp f0
  obtain rfl := rMg_u hM hR.1
  have f1 : rB K n p 88 [rR x0, rI x2, rI x3] σ := by
    obtain ⟨w, e6, e7⟩ := m4 (1411, [0, 2, 3]) (List.mem_of_getElem? (i := 1) rfl)
    obtain rfl : [rR x0, rI x2, rI x3] = w := Option.some.inj (show some [rR x0, rI x2, rI x3] = some w from e6)
    exact (rF_b (r := 1411) (by decide) rfl).mp e7
  have f1 := ro_88.mp f1
  clear m1 m2 m3 m4
  have q0 : rB K n p 89 [rR x0, rI x2, rI x3] (jup σ x1 (jsto (σ x1) x4.toNatClampNeg x5)) := ro_89.mpr (by
    obtain ⟨g, h, k⟩ := f1
    refine ⟨_, rRo_up h s1 t1, fun _ j h1 h2 => ?_⟩
    have hi : x4.toNatClampNeg = x4.toInt.toNat := rfl
    unfold upd
    by_cases cj : j = x3.toInt
    · rw [if_pos (by rw [hi]; omega), cj]
      exact y0.symm
    · rw [if_neg (by rw [hi]; omega)]
      exact k (by omega) j h1 (by omega))
  exact ⟨p, fun _ => rfl, ⟨(fun q h => by cases h), fun q h => (by cases h), (fun f h => by cases h), (aAllc ⟨_, rfl, rF_p (r := 1427) (by decide) (by decide) q0⟩ (fun f h => by cases h))⟩, [], List.mem_cons_self, fun f h => (by cases h)⟩
theorem rw_rvENn {K : Nat → Nat} {n : Nat} {JX : (Nat → jcell) → Prop} : aGho (rF K n) fa_T K n JX ag_rvENn := by
  refine aGho_of ⟨rfl, rfl⟩ ?_
  intro p σ ρ hH hX hA hM0
  have hG := aAG_of hA.1 (fun i e v he hv => (hA.2 i e v he hv).1)
  clear hA
  obtain ⟨v0, v1, v2, v3, rfl, g0, g1, g2, g3⟩ := rA_4 hG
  clear hG
  obtain ⟨x0, rfl, b0, d0⟩ := rG_ref (by decide) g0
  obtain ⟨x1, rfl, b1, d1⟩ := aG_int g1
  dsimp only at b1 d1
  obtain ⟨x2, rfl, b2, d2⟩ := aG_int g2
  dsimp only at b2 d2
  obtain ⟨x3, rfl, b3, d3⟩ := aG_int g3
  dsimp only at b3 d3
  obtain ⟨m1, m2, m3, m4⟩ := hM0
  obtain ⟨M, hM⟩ := rMe_ex hH b0 d0
  have l0 : 0 ≤ (1 * x3.toInt + (-1 * x2.toInt + 0)) + -1 := by
    obtain ⟨z, e6, e7⟩ := m3 ([(3, 1), (2, -1)], -1) (List.mem_of_getElem? (i := 0) rfl)
    obtain rfl : (1 * x3.toInt + (-1 * x2.toInt + 0)) = z := Option.some.inj (show some (1 * x3.toInt + (-1 * x2.toInt + 0)) = some z from e6)
    exact e7
  have l1 : 0 ≤ (-1 * x3.toInt + (1 * x2.toInt + 0)) + 1 := by
    obtain ⟨z, e6, e7⟩ := m3 ([(3, -1), (2, 1)], 1) (List.mem_of_getElem? (i := 1) rfl)
    obtain rfl : (-1 * x3.toInt + (1 * x2.toInt + 0)) = z := Option.some.inj (show some (-1 * x3.toInt + (1 * x2.toInt + 0)) = some z from e6)
    exact e7
  have f0 : rB K n p 89 [rR x0, rI x1, rI x2] σ := by
    obtain ⟨w, e6, e7⟩ := m4 (1427, [0, 1, 2]) (List.mem_of_getElem? (i := 0) rfl)
    obtain rfl : [rR x0, rI x1, rI x2] = w := Option.some.inj (show some [rR x0, rI x1, rI x2] = some w from e6)
    exact (rF_b (r := 1427) (by decide) rfl).mp e7
  have f0 := ro_89.mp f0
  clear m1 m2 m3 m4
  have q0 : rB K n p 88 [rR x0, rI x1, rI x3] σ := ro_88.mpr (by
    rw [show x3.toInt = x2.toInt + 1 by omega]
    exact f0)
  exact ⟨p, fun _ => rfl, ⟨(fun q h => by cases h), fun q h => (by cases h), (fun f h => by cases h), (aAllc ⟨_, rfl, (rF_b (r := 1411) (by decide) rfl).mpr q0⟩ (fun f h => by cases h))⟩, [], List.mem_cons_self, fun f h => (by cases h)⟩
theorem rw_rvPGe {K : Nat → Nat} {n : Nat} {JX : (Nat → jcell) → Prop} : aGho (rF K n) fa_T K n JX ag_rvPGe := by
  refine aGho_of ⟨rfl, rfl⟩ ?_
  intro p σ ρ hH hX hA hM0
  have hG := aAG_of hA.1 (fun i e v he hv => (hA.2 i e v he hv).1)
  clear hA
  obtain ⟨v0, v1, v2, v3, v4, v5, v6, v7, v8, rfl, g0, g1, g2, g3, g4, g5, g6, g7, g8⟩ := rA_9 hG
  clear hG
  obtain ⟨x0, rfl, b0, d0⟩ := rG_ref (by decide) g0
  obtain ⟨x1, rfl, b1, d1⟩ := aG_int g1
  dsimp only at b1 d1
  obtain ⟨x2, rfl, b2, d2⟩ := aG_int g2
  dsimp only at b2 d2
  obtain ⟨x3, rfl, b3, d3⟩ := aG_int g3
  dsimp only at b3 d3
  obtain ⟨x4, rfl, b4, d4⟩ := aG_int g4
  dsimp only at b4 d4
  obtain ⟨x5, rfl, b5, d5⟩ := aG_int g5
  dsimp only at b5 d5
  obtain ⟨x6, rfl, b6, d6⟩ := rG_ref (by decide) g6
  obtain ⟨x7, rfl, b7, d7⟩ := rG_ref (by decide) g7
  obtain ⟨x8, rfl, b8, d8⟩ := rG_ref (by decide) g8
  obtain ⟨m1, m2, m3, m4⟩ := hM0
  obtain ⟨M, hM⟩ := rMe_ex hH b0 d0
  obtain ⟨a0, c0, fs0, w0, e1, s0, t0, e4⟩ := m1 (0, 10, 6) (List.mem_of_getElem? (i := 0) rfl)
  obtain rfl : x0 = a0 := Sum.inl.inj (Option.some.inj (Sum.inr.inj (Sum.inr.inj (Option.some.inj (show some (rR x0) = some _ from e1)))))
  obtain rfl : rR x6 = w0 := Option.some.inj (show some (rR x6) = some w0 from e4)
  clear e1 e4
  obtain ⟨a1, c1, fs1, w1, e1, s1, t1, e4⟩ := m1 (0, 11, 7) (List.mem_of_getElem? (i := 1) rfl)
  obtain rfl : x0 = a1 := Sum.inl.inj (Option.some.inj (Sum.inr.inj (Sum.inr.inj (Option.some.inj (show some (rR x0) = some _ from e1)))))
  obtain rfl : rR x7 = w1 := Option.some.inj (show some (rR x7) = some w1 from e4)
  clear e1 e4
  obtain ⟨a2, c2, fs2, w2, e1, s2, t2, e4⟩ := m1 (0, 12, 8) (List.mem_of_getElem? (i := 2) rfl)
  obtain rfl : x0 = a2 := Sum.inl.inj (Option.some.inj (Sum.inr.inj (Sum.inr.inj (Option.some.inj (show some (rR x0) = some _ from e1)))))
  obtain rfl : rR x8 = w2 := Option.some.inj (show some (rR x8) = some w2 from e4)
  clear e1 e4
  obtain ⟨a3, c3, fs3, w3, e1, s3, t3, e4⟩ := m1 (0, 3, 3) (List.mem_of_getElem? (i := 3) rfl)
  obtain rfl : x0 = a3 := Sum.inl.inj (Option.some.inj (Sum.inr.inj (Sum.inr.inj (Option.some.inj (show some (rR x0) = some _ from e1)))))
  obtain rfl : rI x3 = w3 := Option.some.inj (show some (rI x3) = some w3 from e4)
  clear e1 e4
  obtain ⟨a4, c4, fs4, w4, e1, s4, t4, e4⟩ := m1 (0, 4, 4) (List.mem_of_getElem? (i := 4) rfl)
  obtain rfl : x0 = a4 := Sum.inl.inj (Option.some.inj (Sum.inr.inj (Sum.inr.inj (Option.some.inj (show some (rR x0) = some _ from e1)))))
  obtain rfl : rI x4 = w4 := Option.some.inj (show some (rI x4) = some w4 from e4)
  clear e1 e4
  obtain ⟨a5, c5, fs5, w5, e1, s5, t5, e4⟩ := m1 (0, 5, 5) (List.mem_of_getElem? (i := 5) rfl)
  obtain rfl : x0 = a5 := Sum.inl.inj (Option.some.inj (Sum.inr.inj (Sum.inr.inj (Option.some.inj (show some (rR x0) = some _ from e1)))))
  obtain rfl : rI x5 = w5 := Option.some.inj (show some (rI x5) = some w5 from e4)
  clear e1 e4
  obtain ⟨a, mc0, ty0, gc0, ic0, e1, sc0, jc0, e4, e5⟩ := m2 (6, ([(1, 1)], 0), 3) (List.mem_of_getElem? (i := 0) rfl)
  obtain rfl : x6 = a := Sum.inl.inj (Option.some.inj (Sum.inr.inj (Sum.inr.inj (Option.some.inj (show some (rR x6) = some _ from e1)))))
  obtain ⟨gc0, rfl⟩ : ∃ g, gc0 = .inl g := by
    rcases gc0 with g | g
    · exact ⟨g, rfl⟩
    · exact absurd (show some (rI x3) = some (.inr (.inl (g ic0))) from e5) (fun h => by cases h)
  have sc0 : σ x6 = .inl (ty0, mc0, .inl gc0) := sc0
  have ec0 : x3 = gc0 ic0 := Sum.inl.inj (Option.some.inj (show some (rI x3) = some _ from e5))
  have kc0 : (ic0 : Int) = (1 * x1.toInt + 0) + 0 := by
    obtain ⟨z, e6, e7⟩ := e4
    obtain rfl : (1 * x1.toInt + 0) = z := Option.some.inj (show some (1 * x1.toInt + 0) = some z from e6)
    exact e7
  clear e1 e4 e5
  obtain ⟨a, mc1, ty1, gc1, ic1, e1, sc1, jc1, e4, e5⟩ := m2 (7, ([(1, 1)], 0), 4) (List.mem_of_getElem? (i := 1) rfl)
  obtain rfl : x7 = a := Sum.inl.inj (Option.some.inj (Sum.inr.inj (Sum.inr.inj (Option.some.inj (show some (rR x7) = some _ from e1)))))
  obtain ⟨gc1, rfl⟩ : ∃ g, gc1 = .inl g := by
    rcases gc1 with g | g
    · exact ⟨g, rfl⟩
    · exact absurd (show some (rI x4) = some (.inr (.inl (g ic1))) from e5) (fun h => by cases h)
  have sc1 : σ x7 = .inl (ty1, mc1, .inl gc1) := sc1
  have ec1 : x4 = gc1 ic1 := Sum.inl.inj (Option.some.inj (show some (rI x4) = some _ from e5))
  have kc1 : (ic1 : Int) = (1 * x1.toInt + 0) + 0 := by
    obtain ⟨z, e6, e7⟩ := e4
    obtain rfl : (1 * x1.toInt + 0) = z := Option.some.inj (show some (1 * x1.toInt + 0) = some z from e6)
    exact e7
  clear e1 e4 e5
  obtain ⟨a, mc2, ty2, gc2, ic2, e1, sc2, jc2, e4, e5⟩ := m2 (8, ([(1, 1)], 0), 5) (List.mem_of_getElem? (i := 2) rfl)
  obtain rfl : x8 = a := Sum.inl.inj (Option.some.inj (Sum.inr.inj (Sum.inr.inj (Option.some.inj (show some (rR x8) = some _ from e1)))))
  obtain ⟨gc2, rfl⟩ : ∃ g, gc2 = .inl g := by
    rcases gc2 with g | g
    · exact ⟨g, rfl⟩
    · exact absurd (show some (rI x5) = some (.inr (.inl (g ic2))) from e5) (fun h => by cases h)
  have sc2 : σ x8 = .inl (ty2, mc2, .inl gc2) := sc2
  have ec2 : x5 = gc2 ic2 := Sum.inl.inj (Option.some.inj (show some (rI x5) = some _ from e5))
  have kc2 : (ic2 : Int) = (1 * x1.toInt + 0) + 0 := by
    obtain ⟨z, e6, e7⟩ := e4
    obtain rfl : (1 * x1.toInt + 0) = z := Option.some.inj (show some (1 * x1.toInt + 0) = some z from e6)
    exact e7
  clear e1 e4 e5
  have f0 : rB K n p 22 [rR x0] σ := by
    obtain ⟨w, e6, e7⟩ := m4 (353, [0]) (List.mem_of_getElem? (i := 0) rfl)
    obtain rfl : [rR x0] = w := Option.some.inj (show some [rR x0] = some w from e6)
    exact (rF_b (r := 353) (by decide) rfl).mp e7
  obtain ⟨hp, hR⟩ := ro_22.mp f0
  obtain rfl := rMg_u hM hR.1
  have uS : p.1.2.1 = x3.toInt := rRX_f hR.2.1 s3 t3
  have uR : p.1.2.2.1 = x4.toInt := rRX_f hR.2.2.1 s4 t4
  have uP : p.1.2.2.2 = x5.toInt := rRX_f hR.2.2.2 s5 t5
  have f1 : rB K n p 24 [] σ := by
    obtain ⟨w, e6, e7⟩ := m4 (384, []) (List.mem_of_getElem? (i := 1) rfl)
    obtain rfl : [] = w := Option.some.inj (show some [] = some w from e6)
    exact (rF_b (r := 384) (by decide) rfl).mp e7
  have f1 := ro_24.mp f1
  have f2 : rB K n p 170 [rR x0, rI x1] σ := by
    obtain ⟨w, e6, e7⟩ := m4 (2722, [0, 1]) (List.mem_of_getElem? (i := 2) rfl)
    obtain rfl : [rR x0, rI x1] = w := Option.some.inj (show some [rR x0, rI x1] = some w from e6)
    exact (rF_b (r := 2722) (by decide) rfl).mp e7
  have f2 := ro_170.mp f2
  have f3 : rB K n p 88 [rR x0, rI x1, rI x2] σ := by
    obtain ⟨w, e6, e7⟩ := m4 (1411, [0, 1, 2]) (List.mem_of_getElem? (i := 3) rfl)
    obtain rfl : [rR x0, rI x1, rI x2] = w := Option.some.inj (show some [rR x0, rI x1, rI x2] = some w from e6)
    exact (rF_b (r := 1411) (by decide) rfl).mp e7
  have f3 := ro_88.mp f3
  clear m1 m2 m3 m4
  have q0 : rB K n p 171 [rR x0, rI x1] σ := ro_171.mpr (by
    obtain ⟨gM, gS, gP, h1, h2, h3, k⟩ := f2
    obtain ⟨g', h4, k4⟩ := f3
    obtain rfl := rRo_u h1 h4
    refine ⟨gM, gS, gP, h1, h2, h3, fun t tt1 tt2 => ?_⟩
    by_cases ct : t = x1.toInt
    · have e1 := rRo_c (i := ic0) h2 s0 t0 sc0 ec0
      have e3 := rRo_c (i := ic2) h3 s2 t2 sc2 ec2
      rw [show ic0 = t.toNat by omega] at e1
      rw [show ic2 = t.toNat by omega] at e3
      refine rPs_m (q := p.1) (fun j j0 j1 => ?_) ?_ ?_ f1.2.2.2.2.1
      · show p.1.1 j = if 0 ≤ j ∧ j ≤ 63 then (gM (64 * t + j).toNat).toInt else 0
        rw [if_pos ⟨j0, j1⟩, ct]
        exact (k4 (by omega) j j0 (by omega)).symm
      · show p.1.2.1 = (gS t.toNat).toInt
        rw [e1, uS]
      · show p.1.2.2.2 = (gP t.toNat).toInt
        rw [e3, uP]
    · exact k t tt1 (by omega))
  exact ⟨p, fun _ => rfl, ⟨(fun q h => by cases h), fun q h => (by cases h), (fun f h => by cases h), (aAllc ⟨_, rfl, (rF_b (r := 2738) (by decide) rfl).mpr q0⟩ (fun f h => by cases h))⟩, [], List.mem_cons_self, fun f h => (by cases h)⟩
theorem rw_rvA1 {K : Nat → Nat} {n : Nat} {JX : (Nat → jcell) → Prop} : aGho (rF K n) fa_T K n JX ag_rvA1 := by
  refine aGho_of ⟨rfl, rfl⟩ ?_
  intro p σ ρ hH hX hA hM0
  have hG := aAG_of hA.1 (fun i e v he hv => (hA.2 i e v he hv).1)
  clear hA
  obtain ⟨v0, v1, v2, v3, v4, v5, rfl, g0, g1, g2, g3, g4, g5⟩ := rA_6 hG
  clear hG
  obtain ⟨x0, rfl, b0, d0⟩ := rG_ref (by decide) g0
  obtain ⟨x1, rfl, b1, d1⟩ := aG_int g1
  dsimp only at b1 d1
  obtain ⟨x2, rfl, b2, d2⟩ := aG_int g2
  dsimp only at b2 d2
  obtain ⟨x3, rfl, b3, d3⟩ := aG_int g3
  dsimp only at b3 d3
  obtain ⟨x4, rfl, b4, d4⟩ := aG_int g4
  dsimp only at b4 d4
  obtain ⟨x5, rfl, b5, d5⟩ := rG_ref (by decide) g5
  obtain ⟨m1, m2, m3, m4⟩ := hM0
  obtain ⟨M, hM⟩ := rMe_ex hH b0 d0
  obtain ⟨a0, c0, fs0, w0, e1, s0, t0, e4⟩ := m1 (0, 10, 5) (List.mem_of_getElem? (i := 0) rfl)
  obtain rfl : x0 = a0 := Sum.inl.inj (Option.some.inj (Sum.inr.inj (Sum.inr.inj (Option.some.inj (show some (rR x0) = some _ from e1)))))
  obtain rfl : rR x5 = w0 := Option.some.inj (show some (rR x5) = some w0 from e4)
  clear e1 e4
  obtain ⟨a1, c1, fs1, w1, e1, s1, t1, e4⟩ := m1 (0, 3, 3) (List.mem_of_getElem? (i := 1) rfl)
  obtain rfl : x0 = a1 := Sum.inl.inj (Option.some.inj (Sum.inr.inj (Sum.inr.inj (Option.some.inj (show some (rR x0) = some _ from e1)))))
  obtain rfl : rI x3 = w1 := Option.some.inj (show some (rI x3) = some w1 from e4)
  clear e1 e4
  obtain ⟨a, mc0, ty0, gc0, ic0, e1, sc0, jc0, e4, e5⟩ := m2 (5, ([(1, 1)], 0), 2) (List.mem_of_getElem? (i := 0) rfl)
  obtain rfl : x5 = a := Sum.inl.inj (Option.some.inj (Sum.inr.inj (Sum.inr.inj (Option.some.inj (show some (rR x5) = some _ from e1)))))
  obtain ⟨gc0, rfl⟩ : ∃ g, gc0 = .inl g := by
    rcases gc0 with g | g
    · exact ⟨g, rfl⟩
    · exact absurd (show some (rI x2) = some (.inr (.inl (g ic0))) from e5) (fun h => by cases h)
  have sc0 : σ x5 = .inl (ty0, mc0, .inl gc0) := sc0
  have ec0 : x2 = gc0 ic0 := Sum.inl.inj (Option.some.inj (show some (rI x2) = some _ from e5))
  have kc0 : (ic0 : Int) = (1 * x1.toInt + 0) + 0 := by
    obtain ⟨z, e6, e7⟩ := e4
    obtain rfl : (1 * x1.toInt + 0) = z := Option.some.inj (show some (1 * x1.toInt + 0) = some z from e6)
    exact e7
  clear e1 e4 e5
  have l0 : 0 ≤ (1 * x2.toInt + (-1 * x3.toInt + 0)) + 0 := by
    obtain ⟨z, e6, e7⟩ := m3 ([(2, 1), (3, -1)], 0) (List.mem_of_getElem? (i := 0) rfl)
    obtain rfl : (1 * x2.toInt + (-1 * x3.toInt + 0)) = z := Option.some.inj (show some (1 * x2.toInt + (-1 * x3.toInt + 0)) = some z from e6)
    exact e7
  have l1 : 0 ≤ (-1 * x2.toInt + (1 * x3.toInt + 0)) + 0 := by
    obtain ⟨z, e6, e7⟩ := m3 ([(2, -1), (3, 1)], 0) (List.mem_of_getElem? (i := 1) rfl)
    obtain rfl : (-1 * x2.toInt + (1 * x3.toInt + 0)) = z := Option.some.inj (show some (-1 * x2.toInt + (1 * x3.toInt + 0)) = some z from e6)
    exact e7
  clear m1 m2 m3 m4
  have q0 : rB K n p 175 [rR x0, rI x1, rI x4] σ := ro_175.mpr (by
    intro _
    obtain ⟨gM, hgM⟩ := rRo_ex (ko := 88) (f := 9) (kr := 91) (len := 19520) hH rfl rfl rfl (by decide) b0 d0
    obtain ⟨gS, hgS⟩ := rRo_of (k := 88) (f := 10) hH b0 d0 s0 t0 b5 d5 rfl
    have e1 := rRo_c (i := ic0) hgS s0 t0 sc0 ec0
    rw [show ic0 = x1.toInt.toNat by omega] at e1
    exact ⟨gM, gS, M, x3, hgM, hgS, hM, ⟨b0, d0, _, _, s1, t1⟩, b1, by omega, fun j h1 h2 => by omega⟩)
  exact ⟨p, fun _ => rfl, ⟨(fun q h => by cases h), fun q h => (by cases h), (fun f h => by cases h), (aAllc ⟨_, rfl, (rF_b (r := 2803) (by decide) rfl).mpr q0⟩ (fun f h => by cases h))⟩, [], List.mem_cons_self, fun f h => (by cases h)⟩
theorem rw_rvA0 {K : Nat → Nat} {n : Nat} {JX : (Nat → jcell) → Prop} : aGho (rF K n) fa_T K n JX ag_rvA0 := by
  refine aGho_of ⟨rfl, rfl⟩ ?_
  intro p σ ρ hH hX hA hM0
  have hG := aAG_of hA.1 (fun i e v he hv => (hA.2 i e v he hv).1)
  clear hA
  obtain ⟨v0, v1, v2, rfl, g0, g1, g2⟩ := rA_3 hG
  clear hG
  obtain ⟨x0, rfl, b0, d0⟩ := rG_ref (by decide) g0
  obtain ⟨x1, rfl, b1, d1⟩ := aG_int g1
  dsimp only at b1 d1
  obtain ⟨x2, rfl, b2, d2⟩ := aG_int g2
  dsimp only at b2 d2
  obtain ⟨m1, m2, m3, m4⟩ := hM0
  obtain ⟨M, hM⟩ := rMe_ex hH b0 d0
  clear m1 m2 m3 m4
  have q0 : rB K n p 175 [rR x0, rI x1, rI x2] σ := ro_175.mpr (by
    intro h
    omega)
  exact ⟨p, fun _ => rfl, ⟨(fun q h => by cases h), fun q h => (by cases h), (fun f h => by cases h), (aAllc ⟨_, rfl, (rF_b (r := 2803) (by decide) rfl).mpr q0⟩ (fun f h => by cases h))⟩, [], List.mem_cons_self, fun f h => (by cases h)⟩
theorem rw_rvAi {K : Nat → Nat} {n : Nat} {JX : (Nat → jcell) → Prop} : aGho (rF K n) fa_T K n JX ag_rvAi := by
  refine aGho_of ⟨rfl, rfl⟩ ?_
  intro p σ ρ hH hX hA hM0
  have hG := aAG_of hA.1 (fun i e v he hv => (hA.2 i e v he hv).1)
  clear hA
  obtain ⟨v0, v1, v2, v3, rfl, g0, g1, g2, g3⟩ := rA_4 hG
  clear hG
  obtain ⟨x0, rfl, b0, d0⟩ := rG_ref (by decide) g0
  obtain ⟨x1, rfl, b1, d1⟩ := aG_int g1
  dsimp only at b1 d1
  obtain ⟨x2, rfl, b2, d2⟩ := aG_int g2
  dsimp only at b2 d2
  obtain ⟨x3, rfl, b3, d3⟩ := aG_int g3
  dsimp only at b3 d3
  obtain ⟨m1, m2, m3, m4⟩ := hM0
  obtain ⟨M, hM⟩ := rMe_ex hH b0 d0
  have f0 : rB K n p 175 [rR x0, rI x1, rI x3] σ := by
    obtain ⟨w, e6, e7⟩ := m4 (2803, [0, 1, 3]) (List.mem_of_getElem? (i := 0) rfl)
    obtain rfl : [rR x0, rI x1, rI x3] = w := Option.some.inj (show some [rR x0, rI x1, rI x3] = some w from e6)
    exact (rF_b (r := 2803) (by decide) rfl).mp e7
  have f0 := ro_175.mp f0
  clear m1 m2 m3 m4
  have q0 : rB K n p 176 [rR x0, rI x1, rI x2, rI x3] σ := ro_176.mpr (by
    intro h
    rw [show x2.toInt = 0 by omega]
    exact f0 h)
  exact ⟨p, fun _ => rfl, ⟨(fun q h => by cases h), fun q h => (by cases h), (fun f h => by cases h), (aAllc ⟨_, rfl, (rF_b (r := 2820) (by decide) rfl).mpr q0⟩ (fun f h => by cases h))⟩, [], List.mem_cons_self, fun f h => (by cases h)⟩
theorem rw_rvAs1 {K : Nat → Nat} {n : Nat} {JX : (Nat → jcell) → Prop} : aGho (rF K n) fa_T K n JX ag_rvAs1 := by
  refine aGho_of ⟨rfl, rfl⟩ ?_
  intro p σ ρ hH hX hA hM0
  have hG := aAG_of hA.1 (fun i e v he hv => (hA.2 i e v he hv).1)
  clear hA
  obtain ⟨v0, v1, v2, v3, v4, v5, v6, v7, v8, rfl, g0, g1, g2, g3, g4, g5, g6, g7, g8⟩ := rA_9 hG
  clear hG
  obtain ⟨x0, rfl, b0, d0⟩ := rG_ref (by decide) g0
  obtain ⟨x1, rfl, b1, d1⟩ := aG_int g1
  dsimp only at b1 d1
  obtain ⟨x2, rfl, b2, d2⟩ := aG_int g2
  dsimp only at b2 d2
  obtain ⟨x3, rfl, b3, d3⟩ := aG_int g3
  dsimp only at b3 d3
  obtain ⟨x4, rfl, b4, d4⟩ := aG_int g4
  dsimp only at b4 d4
  obtain ⟨x5, rfl, b5, d5⟩ := aG_int g5
  dsimp only at b5 d5
  obtain ⟨x6, rfl, b6, d6⟩ := aG_int g6
  dsimp only at b6 d6
  obtain ⟨x7, rfl, b7, d7⟩ := rG_ref (by decide) g7
  obtain ⟨x8, rfl, b8, d8⟩ := rG_ref (by decide) g8
  obtain ⟨m1, m2, m3, m4⟩ := hM0
  obtain ⟨M, hM⟩ := rMe_ex hH b0 d0
  obtain ⟨a0, c0, fs0, w0, e1, s0, t0, e4⟩ := m1 (0, 2, 7) (List.mem_of_getElem? (i := 0) rfl)
  obtain rfl : x0 = a0 := Sum.inl.inj (Option.some.inj (Sum.inr.inj (Sum.inr.inj (Option.some.inj (show some (rR x0) = some _ from e1)))))
  obtain rfl : rR x7 = w0 := Option.some.inj (show some (rR x7) = some w0 from e4)
  clear e1 e4
  obtain ⟨a1, c1, fs1, w1, e1, s1, t1, e4⟩ := m1 (0, 9, 8) (List.mem_of_getElem? (i := 1) rfl)
  obtain rfl : x0 = a1 := Sum.inl.inj (Option.some.inj (Sum.inr.inj (Sum.inr.inj (Option.some.inj (show some (rR x0) = some _ from e1)))))
  obtain rfl : rR x8 = w1 := Option.some.inj (show some (rR x8) = some w1 from e4)
  clear e1 e4
  obtain ⟨a, mc0, ty0, gc0, ic0, e1, sc0, jc0, e4, e5⟩ := m2 (7, ([(2, 1)], 0), 4) (List.mem_of_getElem? (i := 0) rfl)
  obtain rfl : x7 = a := Sum.inl.inj (Option.some.inj (Sum.inr.inj (Sum.inr.inj (Option.some.inj (show some (rR x7) = some _ from e1)))))
  obtain ⟨gc0, rfl⟩ : ∃ g, gc0 = .inl g := by
    rcases gc0 with g | g
    · exact ⟨g, rfl⟩
    · exact absurd (show some (rI x4) = some (.inr (.inl (g ic0))) from e5) (fun h => by cases h)
  have sc0 : σ x7 = .inl (ty0, mc0, .inl gc0) := sc0
  have ec0 : x4 = gc0 ic0 := Sum.inl.inj (Option.some.inj (show some (rI x4) = some _ from e5))
  have kc0 : (ic0 : Int) = (1 * x2.toInt + 0) + 0 := by
    obtain ⟨z, e6, e7⟩ := e4
    obtain rfl : (1 * x2.toInt + 0) = z := Option.some.inj (show some (1 * x2.toInt + 0) = some z from e6)
    exact e7
  clear e1 e4 e5
  obtain ⟨a, mc1, ty1, gc1, ic1, e1, sc1, jc1, e4, e5⟩ := m2 (8, ([(1, 64), (2, 1)], 0), 3) (List.mem_of_getElem? (i := 1) rfl)
  obtain rfl : x8 = a := Sum.inl.inj (Option.some.inj (Sum.inr.inj (Sum.inr.inj (Option.some.inj (show some (rR x8) = some _ from e1)))))
  obtain ⟨gc1, rfl⟩ : ∃ g, gc1 = .inl g := by
    rcases gc1 with g | g
    · exact ⟨g, rfl⟩
    · exact absurd (show some (rI x3) = some (.inr (.inl (g ic1))) from e5) (fun h => by cases h)
  have sc1 : σ x8 = .inl (ty1, mc1, .inl gc1) := sc1
  have ec1 : x3 = gc1 ic1 := Sum.inl.inj (Option.some.inj (show some (rI x3) = some _ from e5))
  have kc1 : (ic1 : Int) = (64 * x1.toInt + (1 * x2.toInt + 0)) + 0 := by
    obtain ⟨z, e6, e7⟩ := e4
    obtain rfl : (64 * x1.toInt + (1 * x2.toInt + 0)) = z := Option.some.inj (show some (64 * x1.toInt + (1 * x2.toInt + 0)) = some z from e6)
    exact e7
  clear e1 e4 e5
  have l0 : 0 ≤ (1 * x3.toInt + (-1 * x4.toInt + 0)) + 0 := by
    obtain ⟨z, e6, e7⟩ := m3 ([(3, 1), (4, -1)], 0) (List.mem_of_getElem? (i := 0) rfl)
    obtain rfl : (1 * x3.toInt + (-1 * x4.toInt + 0)) = z := Option.some.inj (show some (1 * x3.toInt + (-1 * x4.toInt + 0)) = some z from e6)
    exact e7
  have l1 : 0 ≤ (-1 * x3.toInt + (1 * x4.toInt + 0)) + 0 := by
    obtain ⟨z, e6, e7⟩ := m3 ([(3, -1), (4, 1)], 0) (List.mem_of_getElem? (i := 1) rfl)
    obtain rfl : (-1 * x3.toInt + (1 * x4.toInt + 0)) = z := Option.some.inj (show some (-1 * x3.toInt + (1 * x4.toInt + 0)) = some z from e6)
    exact e7
  have y0 : M x2.toInt = x4.toInt := rMg_c hM s0 t0 sc0 (by omega) (by omega) (by omega) ec0
  have f0 : rB K n p 176 [rR x0, rI x1, rI x2, rI x5] σ := by
    obtain ⟨w, e6, e7⟩ := m4 (2820, [0, 1, 2, 5]) (List.mem_of_getElem? (i := 0) rfl)
    obtain rfl : [rR x0, rI x1, rI x2, rI x5] = w := Option.some.inj (show some [rR x0, rI x1, rI x2, rI x5] = some w from e6)
    exact (rF_b (r := 2820) (by decide) rfl).mp e7
  have f0 := ro_176.mp f0
  clear m1 m2 m3 m4
  have q0 : rB K n p 177 [rR x0, rI x1, rI x2, rI x6] σ := ro_177.mpr (by
    intro _
    obtain ⟨gM, gS, M9, v, h1, h2, h3, h4, h5, h6, h7⟩ := f0 (by omega)
    obtain rfl := rMg_u hM h3
    refine ⟨gM, gS, _, v, h1, h2, hM, h4, h5, h6, fun j j0 j1 j2 => ?_⟩
    by_cases cj : j = x2.toInt
    · have e1 := rRo_c (i := ic1) h1 s1 t1 sc1 ec1
      rw [show ic1 = (64 * x1.toInt + x2.toInt).toNat by omega] at e1
      rw [cj, e1]
      omega
    · exact h7 j j0 (by omega) j2)
  exact ⟨p, fun _ => rfl, ⟨(fun q h => by cases h), fun q h => (by cases h), (fun f h => by cases h), (aAllc ⟨_, rfl, (rF_b (r := 2836) (by decide) rfl).mpr q0⟩ (fun f h => by cases h))⟩, [], List.mem_cons_self, fun f h => (by cases h)⟩
theorem rw_rvAs0 {K : Nat → Nat} {n : Nat} {JX : (Nat → jcell) → Prop} : aGho (rF K n) fa_T K n JX ag_rvAs0 := by
  refine aGho_of ⟨rfl, rfl⟩ ?_
  intro p σ ρ hH hX hA hM0
  have hG := aAG_of hA.1 (fun i e v he hv => (hA.2 i e v he hv).1)
  clear hA
  obtain ⟨v0, v1, v2, v3, rfl, g0, g1, g2, g3⟩ := rA_4 hG
  clear hG
  obtain ⟨x0, rfl, b0, d0⟩ := rG_ref (by decide) g0
  obtain ⟨x1, rfl, b1, d1⟩ := aG_int g1
  dsimp only at b1 d1
  obtain ⟨x2, rfl, b2, d2⟩ := aG_int g2
  dsimp only at b2 d2
  obtain ⟨x3, rfl, b3, d3⟩ := aG_int g3
  dsimp only at b3 d3
  obtain ⟨m1, m2, m3, m4⟩ := hM0
  obtain ⟨M, hM⟩ := rMe_ex hH b0 d0
  clear m1 m2 m3 m4
  have q0 : rB K n p 177 [rR x0, rI x1, rI x2, rI x3] σ := ro_177.mpr (by
    intro h
    omega)
  exact ⟨p, fun _ => rfl, ⟨(fun q h => by cases h), fun q h => (by cases h), (fun f h => by cases h), (aAllc ⟨_, rfl, (rF_b (r := 2836) (by decide) rfl).mpr q0⟩ (fun f h => by cases h))⟩, [], List.mem_cons_self, fun f h => (by cases h)⟩
theorem rw_rvAn {K : Nat → Nat} {n : Nat} {JX : (Nat → jcell) → Prop} : aGho (rF K n) fa_T K n JX ag_rvAn := by
  refine aGho_of ⟨rfl, rfl⟩ ?_
  intro p σ ρ hH hX hA hM0
  have hG := aAG_of hA.1 (fun i e v he hv => (hA.2 i e v he hv).1)
  clear hA
  obtain ⟨v0, v1, v2, v3, v4, rfl, g0, g1, g2, g3, g4⟩ := rA_5 hG
  clear hG
  obtain ⟨x0, rfl, b0, d0⟩ := rG_ref (by decide) g0
  obtain ⟨x1, rfl, b1, d1⟩ := aG_int g1
  dsimp only at b1 d1
  obtain ⟨x2, rfl, b2, d2⟩ := aG_int g2
  dsimp only at b2 d2
  obtain ⟨x3, rfl, b3, d3⟩ := aG_int g3
  dsimp only at b3 d3
  obtain ⟨x4, rfl, b4, d4⟩ := aG_int g4
  dsimp only at b4 d4
  obtain ⟨m1, m2, m3, m4⟩ := hM0
  obtain ⟨M, hM⟩ := rMe_ex hH b0 d0
  have l0 : 0 ≤ (1 * x4.toInt + (-1 * x2.toInt + 0)) + -1 := by
    obtain ⟨z, e6, e7⟩ := m3 ([(4, 1), (2, -1)], -1) (List.mem_of_getElem? (i := 0) rfl)
    obtain rfl : (1 * x4.toInt + (-1 * x2.toInt + 0)) = z := Option.some.inj (show some (1 * x4.toInt + (-1 * x2.toInt + 0)) = some z from e6)
    exact e7
  have l1 : 0 ≤ (-1 * x4.toInt + (1 * x2.toInt + 0)) + 1 := by
    obtain ⟨z, e6, e7⟩ := m3 ([(4, -1), (2, 1)], 1) (List.mem_of_getElem? (i := 1) rfl)
    obtain rfl : (-1 * x4.toInt + (1 * x2.toInt + 0)) = z := Option.some.inj (show some (-1 * x4.toInt + (1 * x2.toInt + 0)) = some z from e6)
    exact e7
  have f0 : rB K n p 177 [rR x0, rI x1, rI x2, rI x3] σ := by
    obtain ⟨w, e6, e7⟩ := m4 (2836, [0, 1, 2, 3]) (List.mem_of_getElem? (i := 0) rfl)
    obtain rfl : [rR x0, rI x1, rI x2, rI x3] = w := Option.some.inj (show some [rR x0, rI x1, rI x2, rI x3] = some w from e6)
    exact (rF_b (r := 2836) (by decide) rfl).mp e7
  have f0 := ro_177.mp f0
  clear m1 m2 m3 m4
  have q0 : rB K n p 176 [rR x0, rI x1, rI x4, rI x3] σ := ro_176.mpr (by
    intro h
    rw [show x4.toInt = x2.toInt + 1 by omega]
    exact f0 h)
  exact ⟨p, fun _ => rfl, ⟨(fun q h => by cases h), fun q h => (by cases h), (fun f h => by cases h), (aAllc ⟨_, rfl, (rF_b (r := 2820) (by decide) rfl).mpr q0⟩ (fun f h => by cases h))⟩, [], List.mem_cons_self, fun f h => (by cases h)⟩
theorem rw_rvAe {K : Nat → Nat} {n : Nat} {JX : (Nat → jcell) → Prop} : aGho (rF K n) fa_T K n JX ag_rvAe := by
  refine aGho_of ⟨rfl, rfl⟩ ?_
  intro p σ ρ hH hX hA hM0
  have hG := aAG_of hA.1 (fun i e v he hv => (hA.2 i e v he hv).1)
  clear hA
  obtain ⟨v0, v1, v2, v3, rfl, g0, g1, g2, g3⟩ := rA_4 hG
  clear hG
  obtain ⟨x0, rfl, b0, d0⟩ := rG_ref (by decide) g0
  obtain ⟨x1, rfl, b1, d1⟩ := aG_int g1
  dsimp only at b1 d1
  obtain ⟨x2, rfl, b2, d2⟩ := aG_int g2
  dsimp only at b2 d2
  obtain ⟨x3, rfl, b3, d3⟩ := aG_int g3
  dsimp only at b3 d3
  obtain ⟨m1, m2, m3, m4⟩ := hM0
  obtain ⟨M, hM⟩ := rMe_ex hH b0 d0
  have f0 : rB K n p 176 [rR x0, rI x1, rI x2, rI x3] σ := by
    obtain ⟨w, e6, e7⟩ := m4 (2820, [0, 1, 2, 3]) (List.mem_of_getElem? (i := 0) rfl)
    obtain rfl : [rR x0, rI x1, rI x2, rI x3] = w := Option.some.inj (show some [rR x0, rI x1, rI x2, rI x3] = some w from e6)
    exact (rF_b (r := 2820) (by decide) rfl).mp e7
  have f0 := ro_176.mp f0
  clear m1 m2 m3 m4
  have q0 : rB K n p 174 [rR x0, rI x1, rI x3] σ := ro_174.mpr (by
    intro h
    have h2 := f0 h
    rw [show x2.toInt = 64 by omega] at h2
    exact h2)
  exact ⟨p, fun _ => rfl, ⟨(fun q h => by cases h), fun q h => (by cases h), (fun f h => by cases h), (aAllc ⟨_, rfl, (rF_b (r := 2787) (by decide) rfl).mpr q0⟩ (fun f h => by cases h))⟩, [], List.mem_cons_self, fun f h => (by cases h)⟩
theorem rw_rvAe0 {K : Nat → Nat} {n : Nat} {JX : (Nat → jcell) → Prop} : aGho (rF K n) fa_T K n JX ag_rvAe0 := by
  refine aGho_of ⟨rfl, rfl⟩ ?_
  intro p σ ρ hH hX hA hM0
  have hG := aAG_of hA.1 (fun i e v he hv => (hA.2 i e v he hv).1)
  clear hA
  obtain ⟨v0, v1, v2, rfl, g0, g1, g2⟩ := rA_3 hG
  clear hG
  obtain ⟨x0, rfl, b0, d0⟩ := rG_ref (by decide) g0
  obtain ⟨x1, rfl, b1, d1⟩ := aG_int g1
  dsimp only at b1 d1
  obtain ⟨x2, rfl, b2, d2⟩ := aG_int g2
  dsimp only at b2 d2
  obtain ⟨m1, m2, m3, m4⟩ := hM0
  obtain ⟨M, hM⟩ := rMe_ex hH b0 d0
  clear m1 m2 m3 m4
  have q0 : rB K n p 174 [rR x0, rI x1, rI x2] σ := ro_174.mpr (by
    intro h
    omega)
  exact ⟨p, fun _ => rfl, ⟨(fun q h => by cases h), fun q h => (by cases h), (fun f h => by cases h), (aAllc ⟨_, rfl, (rF_b (r := 2787) (by decide) rfl).mpr q0⟩ (fun f h => by cases h))⟩, [], List.mem_cons_self, fun f h => (by cases h)⟩
theorem rw_rvMP1 {K : Nat → Nat} {n : Nat} {JX : (Nat → jcell) → Prop} : aGho (rF K n) fa_T K n JX ag_rvMP1 := by
  refine aGho_of ⟨rfl, rfl⟩ ?_
  intro p σ ρ hH hX hA hM0
  have hG := aAG_of hA.1 (fun i e v he hv => (hA.2 i e v he hv).1)
  clear hA
  obtain ⟨v0, v1, rfl, g0, g1⟩ := rA_2 hG
  clear hG
  obtain ⟨x0, rfl, b0, d0⟩ := rG_ref (by decide) g0
  obtain ⟨x1, rfl, b1, d1⟩ := aG_int g1
  dsimp only at b1 d1
  obtain ⟨m1, m2, m3, m4⟩ := hM0
  obtain ⟨M, hM⟩ := rMe_ex hH b0 d0
  have f0 : rB K n p 22 [rR x0] σ := by
    obtain ⟨w, e6, e7⟩ := m4 (353, [0]) (List.mem_of_getElem? (i := 0) rfl)
    obtain rfl : [rR x0] = w := Option.some.inj (show some [rR x0] = some w from e6)
    exact (rF_b (r := 353) (by decide) rfl).mp e7
  obtain ⟨hp, hR⟩ := ro_22.mp f0
  obtain rfl := rMg_u hM hR.1
  clear m1 m2 m3 m4
  have q0 : rB K n (rSh rS1 p [rI x1, rI x1]) 22 [rR x0] (jup σ x0 (jstf (σ x0) 5 (rI x1))) := ro_22.mpr (by
    rw [rSh_pa hp]
    exact ⟨rfl, rRX_p hR⟩)
  exact ⟨p, fun _ => rfl, ⟨(fun q h => by cases h), fun q h => (by cases h), (fun f h => by cases h), (aAllc ⟨_, rfl, rF_pf (r := 353) (f := 5) (by decide) (by decide) q0⟩ (fun f h => by cases h))⟩, [], List.mem_cons_self, fun f h => (by cases h)⟩
theorem rw_rvMP2 {K : Nat → Nat} {n : Nat} {JX : (Nat → jcell) → Prop} : aGho (rF K n) fa_T K n JX ag_rvMP2 := by
  refine aGho_of ⟨rfl, rfl⟩ ?_
  intro p σ ρ hH hX hA hM0
  have hG := aAG_of hA.1 (fun i e v he hv => (hA.2 i e v he hv).1)
  clear hA
  obtain ⟨v0, v1, v2, rfl, g0, g1, g2⟩ := rA_3 hG
  clear hG
  obtain ⟨x0, rfl, b0, d0⟩ := rG_ref (by decide) g0
  obtain ⟨x1, rfl, b1, d1⟩ := aG_int g1
  dsimp only at b1 d1
  obtain ⟨x2, rfl, b2, d2⟩ := aG_int g2
  dsimp only at b2 d2
  obtain ⟨m1, m2, m3, m4⟩ := hM0
  obtain ⟨M, hM⟩ := rMe_ex hH b0 d0
  have f0 : rB K n (rSh rS1 p [rI x1, rI x1]) 22 [rR x0] σ := by
    obtain ⟨w, e6, e7⟩ := m4 (353, [0, 1, 1]) (List.mem_of_getElem? (i := 0) rfl)
    obtain rfl : [rR x0, rI x1, rI x1] = w := Option.some.inj (show some [rR x0, rI x1, rI x1] = some w from e6)
    exact (rF_g (r := 353) (by decide)).mp e7
  obtain ⟨hq9, hR⟩ := ro_22.mp f0
  have hp : p.2 = none := rSh_n2 hq9
  clear hq9
  rw [rSh_pa hp] at hR
  obtain rfl : M = p.1.1 := rMg_u hM hR.1
  have f1 : rB K n p 69 [rI x2] σ := by
    obtain ⟨w, e6, e7⟩ := m4 (1105, [2]) (List.mem_of_getElem? (i := 1) rfl)
    obtain rfl : [rI x2] = w := Option.some.inj (show some [rI x2] = some w from e6)
    exact (rF_b (r := 1105) (by decide) rfl).mp e7
  have f1 := ro_69.mp f1
  clear m1 m2 m3 m4
  have q0 : rB K n p 22 [rR x0] (jup σ x0 (jstf (σ x0) 5 (rI x2))) := ro_22.mpr (by
    have h := rRX_p (x := x2) hR
    rw [f1] at h
    exact ⟨hp, h⟩)
  exact ⟨p, fun _ => rfl, ⟨(fun q h => by cases h), fun q h => (by cases h), (fun f h => by cases h), (aAllc ⟨_, rfl, rF_pf (r := 353) (f := 5) (by decide) (by decide) q0⟩ (fun f h => by cases h))⟩, [], List.mem_cons_self, fun f h => (by cases h)⟩
theorem rw_rvMPs {K : Nat → Nat} {n : Nat} {JX : (Nat → jcell) → Prop} : aGho (rF K n) fa_T K n JX ag_rvMPs := by
  refine aGho_of ⟨rfl, rfl⟩ ?_
  intro p σ ρ hH hX hA hM0
  have hG := aAG_of hA.1 (fun i e v he hv => (hA.2 i e v he hv).1)
  clear hA
  obtain ⟨v0, v1, v2, v3, rfl, g0, g1, g2, g3⟩ := rA_4 hG
  clear hG
  obtain ⟨x0, rfl, b0, d0⟩ := rG_ref (by decide) g0
  obtain ⟨x1, rfl, b1, d1⟩ := aG_int g1
  dsimp only at b1 d1
  obtain ⟨x2, rfl, b2, d2⟩ := aG_int g2
  dsimp only at b2 d2
  obtain ⟨x3, rfl, b3, d3⟩ := aG_int g3
  dsimp only at b3 d3
  obtain ⟨m1, m2, m3, m4⟩ := hM0
  obtain ⟨M, hM⟩ := rMe_ex hH b0 d0
  obtain ⟨a0, c0, fs0, w0, e1, s0, t0, e4⟩ := m1 (0, 3, 3) (List.mem_of_getElem? (i := 0) rfl)
  obtain rfl : x0 = a0 := Sum.inl.inj (Option.some.inj (Sum.inr.inj (Sum.inr.inj (Option.some.inj (show some (rR x0) = some _ from e1)))))
  obtain rfl : rI x3 = w0 := Option.some.inj (show some (rI x3) = some w0 from e4)
  clear e1 e4
  have f0 : rB K n (rSh rS1 p [rI x1, rI x1]) 22 [rR x0] σ := by
    obtain ⟨w, e6, e7⟩ := m4 (353, [0, 1, 1]) (List.mem_of_getElem? (i := 0) rfl)
    obtain rfl : [rR x0, rI x1, rI x1] = w := Option.some.inj (show some [rR x0, rI x1, rI x1] = some w from e6)
    exact (rF_g (r := 353) (by decide)).mp e7
  obtain ⟨hq9, hR⟩ := ro_22.mp f0
  have hp : p.2 = none := rSh_n2 hq9
  clear hq9
  rw [rSh_pa hp] at hR
  obtain rfl : M = p.1.1 := rMg_u hM hR.1
  have uS : ((p.1.1, p.1.2.1, p.1.2.2.1, x1.toInt) : rQ).2.1 = x3.toInt := rRX_f hR.2.1 s0 t0
  have f1 : rB K n p 67 [rI x2] σ := by
    obtain ⟨w, e6, e7⟩ := m4 (1073, [2]) (List.mem_of_getElem? (i := 1) rfl)
    obtain rfl : [rI x2] = w := Option.some.inj (show some [rI x2] = some w from e6)
    exact (rF_b (r := 1073) (by decide) rfl).mp e7
  have f1 := ro_67.mp f1
  clear m1 m2 m3 m4
  have r0 : 0 ≤ (1 * x3.toInt + (-1 * x2.toInt + 0)) + 0 := by
    have h : p.1.2.1 = x3.toInt := uS
    omega
  have r1 : 0 ≤ (-1 * x3.toInt + (1 * x2.toInt + 0)) + 0 := by
    have h : p.1.2.1 = x3.toInt := uS
    omega
  exact ⟨p, fun _ => rfl, ⟨(fun q h => by cases h), fun q h => (by cases h), (aAllc ⟨_, rfl, r0⟩ (aAllc ⟨_, rfl, r1⟩ (fun f h => by cases h))), (fun f h => by cases h)⟩, [], List.mem_cons_self, fun f h => (by cases h)⟩
theorem rw_rvMPl {K : Nat → Nat} {n : Nat} {JX : (Nat → jcell) → Prop} : aGho (rF K n) fa_T K n JX ag_rvMPl := by
  refine aGho_of ⟨rfl, rfl⟩ ?_
  intro p σ ρ hH hX hA hM0
  have hG := aAG_of hA.1 (fun i e v he hv => (hA.2 i e v he hv).1)
  clear hA
  obtain ⟨v0, v1, v2, v3, v4, v5, v6, v7, v8, rfl, g0, g1, g2, g3, g4, g5, g6, g7, g8⟩ := rA_9 hG
  clear hG
  obtain ⟨x0, rfl, b0, d0⟩ := rG_ref (by decide) g0
  obtain ⟨x1, rfl, b1, d1⟩ := aG_int g1
  dsimp only at b1 d1
  obtain ⟨x2, rfl, b2, d2⟩ := aG_int g2
  dsimp only at b2 d2
  obtain ⟨x3, rfl, b3, d3⟩ := aG_int g3
  dsimp only at b3 d3
  obtain ⟨x4, rfl, b4, d4⟩ := aG_int g4
  dsimp only at b4 d4
  obtain ⟨x5, rfl, b5, d5⟩ := aG_int g5
  dsimp only at b5 d5
  obtain ⟨x6, rfl, b6, d6⟩ := aG_int g6
  dsimp only at b6 d6
  obtain ⟨x7, rfl, b7, d7⟩ := aG_int g7
  dsimp only at b7 d7
  obtain ⟨x8, rfl, b8, d8⟩ := aG_int g8
  dsimp only at b8 d8
  obtain ⟨m1, m2, m3, m4⟩ := hM0
  obtain ⟨M, hM⟩ := rMe_ex hH b0 d0
  have l0 : 0 ≤ (1 * x3.toInt + (-2 * x7.toInt + 0)) + 1 := by
    obtain ⟨z, e6, e7⟩ := m3 ([(3, 1), (7, -2)], 1) (List.mem_of_getElem? (i := 0) rfl)
    obtain rfl : (1 * x3.toInt + (-2 * x7.toInt + 0)) = z := Option.some.inj (show some (1 * x3.toInt + (-2 * x7.toInt + 0)) = some z from e6)
    exact e7
  have l1 : 0 ≤ (-1 * x3.toInt + (2 * x7.toInt + 0)) + -1 := by
    obtain ⟨z, e6, e7⟩ := m3 ([(3, -1), (7, 2)], -1) (List.mem_of_getElem? (i := 1) rfl)
    obtain rfl : (-1 * x3.toInt + (2 * x7.toInt + 0)) = z := Option.some.inj (show some (-1 * x3.toInt + (2 * x7.toInt + 0)) = some z from e6)
    exact e7
  have l2 : 0 ≤ (1 * x5.toInt + (-8 * x7.toInt + 0)) + -1 := by
    obtain ⟨z, e6, e7⟩ := m3 ([(5, 1), (7, -8)], -1) (List.mem_of_getElem? (i := 2) rfl)
    obtain rfl : (1 * x5.toInt + (-8 * x7.toInt + 0)) = z := Option.some.inj (show some (1 * x5.toInt + (-8 * x7.toInt + 0)) = some z from e6)
    exact e7
  have l3 : 0 ≤ (-1 * x5.toInt + (8 * x7.toInt + 0)) + 1 := by
    obtain ⟨z, e6, e7⟩ := m3 ([(5, -1), (7, 8)], 1) (List.mem_of_getElem? (i := 3) rfl)
    obtain rfl : (-1 * x5.toInt + (8 * x7.toInt + 0)) = z := Option.some.inj (show some (-1 * x5.toInt + (8 * x7.toInt + 0)) = some z from e6)
    exact e7
  have l4 : 0 ≤ (1 * x8.toInt + (-1 * x4.toInt + (-64 * x1.toInt + 0))) + 0 := by
    obtain ⟨z, e6, e7⟩ := m3 ([(8, 1), (4, -1), (1, -64)], 0) (List.mem_of_getElem? (i := 4) rfl)
    obtain rfl : (1 * x8.toInt + (-1 * x4.toInt + (-64 * x1.toInt + 0))) = z := Option.some.inj (show some (1 * x8.toInt + (-1 * x4.toInt + (-64 * x1.toInt + 0))) = some z from e6)
    exact e7
  have l5 : 0 ≤ (-1 * x8.toInt + (1 * x4.toInt + (64 * x1.toInt + 0))) + 0 := by
    obtain ⟨z, e6, e7⟩ := m3 ([(8, -1), (4, 1), (1, 64)], 0) (List.mem_of_getElem? (i := 5) rfl)
    obtain rfl : (-1 * x8.toInt + (1 * x4.toInt + (64 * x1.toInt + 0))) = z := Option.some.inj (show some (-1 * x8.toInt + (1 * x4.toInt + (64 * x1.toInt + 0))) = some z from e6)
    exact e7
  have f0 : rB K n (rSh rS1 p [rI x1, rI x1]) 22 [rR x0] σ := by
    obtain ⟨w, e6, e7⟩ := m4 (353, [0, 1, 1]) (List.mem_of_getElem? (i := 0) rfl)
    obtain rfl : [rR x0, rI x1, rI x1] = w := Option.some.inj (show some [rR x0, rI x1, rI x1] = some w from e6)
    exact (rF_g (r := 353) (by decide)).mp e7
  obtain ⟨hq9, hR⟩ := ro_22.mp f0
  have hp : p.2 = none := rSh_n2 hq9
  clear hq9
  rw [rSh_pa hp] at hR
  obtain rfl : M = p.1.1 := rMg_u hM hR.1
  have f1 : rB K n (rSh rS1 p [rI x1, rI x1]) 24 [] σ := by
    obtain ⟨w, e6, e7⟩ := m4 (384, [1, 1]) (List.mem_of_getElem? (i := 1) rfl)
    obtain rfl : [rI x1, rI x1] = w := Option.some.inj (show some [rI x1, rI x1] = some w from e6)
    exact (rF_g (r := 384) (by decide)).mp e7
  have f1 := ro_24.mp f1
  have f2 : rB K n p 67 [rI x7] σ := by
    obtain ⟨w, e6, e7⟩ := m4 (1073, [7]) (List.mem_of_getElem? (i := 2) rfl)
    obtain rfl : [rI x7] = w := Option.some.inj (show some [rI x7] = some w from e6)
    exact (rF_b (r := 1073) (by decide) rfl).mp e7
  have f2 := ro_67.mp f2
  have f3 : rB K n p 120 [rI x1, rI x2, rI x3, rI x4] σ := by
    obtain ⟨w, e6, e7⟩ := m4 (1924, [1, 2, 3, 4]) (List.mem_of_getElem? (i := 3) rfl)
    obtain rfl : [rI x1, rI x2, rI x3, rI x4] = w := Option.some.inj (show some [rI x1, rI x2, rI x3, rI x4] = some w from e6)
    exact (rF_b (r := 1924) (by decide) rfl).mp e7
  have f3 := ro_120.mp f3
  have f4 : rB K n p 122 [rR x0, rI x4, rI x5, rI x6] σ := by
    obtain ⟨w, e6, e7⟩ := m4 (1956, [0, 4, 5, 6]) (List.mem_of_getElem? (i := 4) rfl)
    obtain rfl : [rR x0, rI x4, rI x5, rI x6] = w := Option.some.inj (show some [rR x0, rI x4, rI x5, rI x6] = some w from e6)
    exact (rF_b (r := 1956) (by decide) rfl).mp e7
  obtain ⟨M9, h9, f4⟩ := ro_122.mp f4
  obtain rfl := rMg_u hM h9
  clear h9
  clear m1 m2 m3 m4
  have q0 : rB K n (rSh rS1 p [rI x1, rI x1]) 25 [rI x8] σ := ro_25.mpr (by
    rw [rSh_pa hp] at f1 ⊢
    obtain ⟨d0', d1', hv, -, hps, -⟩ := f1
    have hps : x1.toInt = -1 ∨ (0 ≤ x1.toInt ∧ x1.toInt ≤ 63 ∧ p.1.1 x1.toInt = 0 ∧ ((p.1.2.1 = 0 ∧ x1.toInt / 8 = 5 ∧ p.1.1 (x1.toInt - 8) = 9) ∨ (p.1.2.1 = 1 ∧ x1.toInt / 8 = 2 ∧ p.1.1 (x1.toInt + 8) = 1))) := hps
    have hz : p.1.1 x4.toInt = 8 * p.1.2.1 + 1 := by omega
    have hb := (rSp_b b1 d1 f3 b4).1
    have hn : x2.toInt = -1 ∨ x2.toInt = 1 := by
      by_cases cz : x2.toInt = 0
      · exfalso
        have e4 : x4.toInt = x1.toInt + 8 * x3.toInt := by
          have h := f3
          unfold rSp at h
          split at h <;> omega
        rcases hps with h | ⟨-, -, -, h | h⟩
        · omega
        · rw [show x1.toInt - 8 = x4.toInt by omega] at h
          omega
        · rw [show x1.toInt + 8 = x4.toInt by omega] at h
          omega
      · omega
    obtain ⟨e1, e2, e3⟩ := rMv (m := x8.toInt) (f := x4.toInt) (t := x1.toInt) (b := 0) b4 d4 b1 d1 (by omega)
    refine ⟨by omega, by omega, ?_, ?_, ?_, Or.inr ⟨?_, e3⟩⟩
    · rw [e1]
      show ¬ p.1.1 x4.toInt = 0 ∧ p.1.1 x4.toInt / 8 = p.1.2.1
      omega
    · rw [e2]
      rintro ⟨h, -⟩
      have h : ¬ p.1.1 x1.toInt = 0 := h
      omega
    · rw [e1, e2]
      refine Or.inl ⟨?_, Or.inr ⟨-x2.toInt, by omega, b1, ?_, Or.inr rfl⟩⟩
      · show p.1.1 x4.toInt % 8 = 1
        omega
      · show x1.toInt = rSp x4.toInt (-x2.toInt) (1 - 2 * p.1.2.1)
        rw [show 1 - 2 * p.1.2.1 = -x3.toInt by omega, hb]
    · rw [e2]
      rintro ⟨-, h⟩
      omega)
  exact ⟨p, fun _ => rfl, ⟨(fun q h => by cases h), fun q h => (by cases h), (fun f h => by cases h), (aAllc ⟨_, rfl, (rF_g (r := 401) (by decide)).mpr q0⟩ (fun f h => by cases h))⟩, [], List.mem_cons_self, fun f h => (by cases h)⟩
theorem rw_rvHMp {K : Nat → Nat} {n : Nat} {JX : (Nat → jcell) → Prop} : aGho (rF K n) fa_T K n JX ag_rvHMp := by
  refine aGho_of ⟨rfl, rfl⟩ ?_
  intro p σ ρ hH hX hA hM0
  have hG := aAG_of hA.1 (fun i e v he hv => (hA.2 i e v he hv).1)
  clear hA
  obtain ⟨v0, v1, v2, v3, rfl, g0, g1, g2, g3⟩ := rA_4 hG
  clear hG
  obtain ⟨x0, rfl, b0, d0⟩ := rG_ref (by decide) g0
  obtain ⟨x1, rfl, b1, d1⟩ := aG_int g1
  dsimp only at b1 d1
  obtain ⟨x2, rfl, b2, d2⟩ := aG_int g2
  dsimp only at b2 d2
  obtain ⟨x3, rfl, b3, d3⟩ := aG_int g3
  dsimp only at b3 d3
  obtain ⟨m1, m2, m3, m4⟩ := hM0
  obtain ⟨M, hM⟩ := rMe_ex hH b0 d0
  have f0 : rB K n p 122 [rR x0, rI x1, rI x2, rI x3] σ := by
    obtain ⟨w, e6, e7⟩ := m4 (1956, [0, 1, 2, 3]) (List.mem_of_getElem? (i := 0) rfl)
    obtain rfl : [rR x0, rI x1, rI x2, rI x3] = w := Option.some.inj (show some [rR x0, rI x1, rI x2, rI x3] = some w from e6)
    exact (rF_b (r := 1956) (by decide) rfl).mp e7
  obtain ⟨M9, h9, f0⟩ := ro_122.mp f0
  obtain rfl := rMg_u hM h9
  clear h9
  clear m1 m2 m3 m4
  have hd : (0 ≤ (1 * x1.toInt + 0) + 0) := by
    omega
  have w0 := hd
  · exact ⟨p, fun _ => rfl, ⟨(fun q h => by cases h), fun q h => (by cases h), (fun f h => by cases h), (fun f h => by cases h)⟩, _, List.mem_of_getElem? (i := 0) rfl, (aAllc ⟨_, rfl, w0⟩ (fun f h => by cases h))⟩
theorem rw_rvPV {K : Nat → Nat} {n : Nat} {JX : (Nat → jcell) → Prop} : aGho (rF K n) fa_T K n JX ag_rvPV := by
  refine aGho_of ⟨rfl, rfl⟩ ?_
  intro p σ ρ hH hX hA hM0
  have hG := aAG_of hA.1 (fun i e v he hv => (hA.2 i e v he hv).1)
  clear hA
  obtain ⟨v0, rfl, g0⟩ := rA_1 hG
  clear hG
  obtain ⟨x0, rfl, b0, d0⟩ := aG_int g0
  dsimp only at b0 d0
  obtain ⟨m1, m2, m3, m4⟩ := hM0
  clear m1 m2 m3 m4
  have hd : (0 ≤ (1 * x0.toInt + 0) + 1 ∧ 0 ≤ (-1 * x0.toInt + 0) + -1) ∨ (0 ≤ (1 * x0.toInt + 0) + 0) := by
    omega
  rcases hd with ⟨w0, w1⟩ | w0
  · exact ⟨p, fun _ => rfl, ⟨(fun q h => by cases h), fun q h => (by cases h), (fun f h => by cases h), (fun f h => by cases h)⟩, _, List.mem_of_getElem? (i := 0) rfl, (aAllc ⟨_, rfl, w0⟩ (aAllc ⟨_, rfl, w1⟩ (fun f h => by cases h)))⟩
  · exact ⟨p, fun _ => rfl, ⟨(fun q h => by cases h), fun q h => (by cases h), (fun f h => by cases h), (fun f h => by cases h)⟩, _, List.mem_of_getElem? (i := 1) rfl, (aAllc ⟨_, rfl, w0⟩ (fun f h => by cases h))⟩
theorem rw_rvGP {K : Nat → Nat} {n : Nat} {JX : (Nat → jcell) → Prop} : aGho (rF K n) fa_T K n JX ag_rvGP := by
  refine aGho_of ⟨rfl, rfl⟩ ?_
  intro p σ ρ hH hX hA hM0
  have hG := aAG_of hA.1 (fun i e v he hv => (hA.2 i e v he hv).1)
  clear hA
  obtain ⟨v0, v1, rfl, g0, g1⟩ := rA_2 hG
  clear hG
  obtain ⟨x0, rfl, b0, d0⟩ := rG_ref (by decide) g0
  obtain ⟨x1, rfl, b1, d1⟩ := aG_int g1
  dsimp only at b1 d1
  obtain ⟨m1, m2, m3, m4⟩ := hM0
  obtain ⟨M, hM⟩ := rMe_ex hH b0 d0
  obtain ⟨a0, c0, fs0, w0, e1, s0, t0, e4⟩ := m1 (0, 5, 1) (List.mem_of_getElem? (i := 0) rfl)
  obtain rfl : x0 = a0 := Sum.inl.inj (Option.some.inj (Sum.inr.inj (Sum.inr.inj (Option.some.inj (show some (rR x0) = some _ from e1)))))
  obtain rfl : rI x1 = w0 := Option.some.inj (show some (rI x1) = some w0 from e4)
  clear e1 e4
  have f0 : rB K n p 22 [rR x0] σ := by
    obtain ⟨w, e6, e7⟩ := m4 (353, [0]) (List.mem_of_getElem? (i := 0) rfl)
    obtain rfl : [rR x0] = w := Option.some.inj (show some [rR x0] = some w from e6)
    exact (rF_b (r := 353) (by decide) rfl).mp e7
  obtain ⟨hp, hR⟩ := ro_22.mp f0
  obtain rfl := rMg_u hM hR.1
  have uP : p.1.2.2.2 = x1.toInt := rRX_f hR.2.2.2 s0 t0
  have f1 : rB K n p 24 [] σ := by
    obtain ⟨w, e6, e7⟩ := m4 (384, []) (List.mem_of_getElem? (i := 1) rfl)
    obtain rfl : [] = w := Option.some.inj (show some [] = some w from e6)
    exact (rF_b (r := 384) (by decide) rfl).mp e7
  have f1 := ro_24.mp f1
  clear m1 m2 m3 m4
  have q0 : rB K n (rSh rS1 p [rI x1, rI x1]) 24 [] σ := ro_24.mpr (by
    rw [rSh_pa hp, ← uP]
    exact f1)
  exact ⟨p, fun _ => rfl, ⟨(fun q h => by cases h), fun q h => (by cases h), (fun f h => by cases h), (aAllc ⟨_, rfl, (rF_g (r := 384) (by decide)).mpr q0⟩ (fun f h => by cases h))⟩, [], List.mem_cons_self, fun f h => (by cases h)⟩
theorem rw_rvAP {K : Nat → Nat} {n : Nat} {JX : (Nat → jcell) → Prop} : aGho (rF K n) fa_T K n JX ag_rvAP := by
  refine aGho_of ⟨rfl, rfl⟩ ?_
  intro p σ ρ hH hX hA hM0
  have hG := aAG_of hA.1 (fun i e v he hv => (hA.2 i e v he hv).1)
  clear hA
  obtain ⟨v0, v1, v2, rfl, g0, g1, g2⟩ := rA_3 hG
  clear hG
  obtain ⟨x0, rfl, b0, d0⟩ := rG_ref (by decide) g0
  obtain ⟨x1, rfl, b1, d1⟩ := aG_int g1
  dsimp only at b1 d1
  obtain ⟨x2, rfl, b2, d2⟩ := aG_int g2
  dsimp only at b2 d2
  obtain ⟨m1, m2, m3, m4⟩ := hM0
  obtain ⟨M, hM⟩ := rMe_ex hH b0 d0
  have f0 : rB K n p 22 [rR x0] σ := by
    obtain ⟨w, e6, e7⟩ := m4 (353, [0]) (List.mem_of_getElem? (i := 0) rfl)
    obtain rfl : [rR x0] = w := Option.some.inj (show some [rR x0] = some w from e6)
    exact (rF_b (r := 353) (by decide) rfl).mp e7
  obtain ⟨hp, hR⟩ := ro_22.mp f0
  obtain rfl := rMg_u hM hR.1
  have f1 : rB K n p 174 [rR x0, rI x1, rI x2] σ := by
    obtain ⟨w, e6, e7⟩ := m4 (2787, [0, 1, 2]) (List.mem_of_getElem? (i := 1) rfl)
    obtain rfl : [rR x0, rI x1, rI x2] = w := Option.some.inj (show some [rR x0, rI x1, rI x2] = some w from e6)
    exact (rF_b (r := 2787) (by decide) rfl).mp e7
  have f1 := ro_174.mp f1
  clear m1 m2 m3 m4
  have q0 : rB K n p 90 [rR x0, rI x1] σ := ro_90.mpr (by
    obtain ⟨gM, gS, M9, v, h1, h2, h3, h4, h5, h6, h7⟩ := f1 (by omega)
    obtain rfl := rMg_u hM h3
    obtain ⟨v', o, e⟩ := hR.2.1
    have e2 := rOb_u h4 o
    cases e2
    exact ⟨hp, gM, gS, h1, h2, h5, by rw [h6, e], fun j j0 j1 => h7 j j0 (by omega) j1⟩)
  exact ⟨p, fun _ => rfl, ⟨(fun q h => by cases h), fun q h => (by cases h), (fun f h => by cases h), (aAllc ⟨_, rfl, (rF_b (r := 1442) (by decide) rfl).mpr q0⟩ (fun f h => by cases h))⟩, [], List.mem_cons_self, fun f h => (by cases h)⟩
theorem rw_rvGQ {K : Nat → Nat} {n : Nat} {JX : (Nat → jcell) → Prop} : aGho (rF K n) fa_T K n JX ag_rvGQ := by
  refine aGho_of ⟨rfl, rfl⟩ ?_
  intro p σ ρ hH hX hA hM0
  have hG := aAG_of hA.1 (fun i e v he hv => (hA.2 i e v he hv).1)
  clear hA
  obtain ⟨v0, v1, v2, v3, v4, rfl, g0, g1, g2, g3, g4⟩ := rA_5 hG
  clear hG
  obtain ⟨x0, rfl, b0, d0⟩ := rG_ref (by decide) g0
  obtain ⟨x1, rfl, b1, d1⟩ := aG_int g1
  dsimp only at b1 d1
  obtain ⟨x2, rfl, b2, d2⟩ := aG_int g2
  dsimp only at b2 d2
  obtain ⟨x3, rfl, b3, d3⟩ := aG_int g3
  dsimp only at b3 d3
  obtain ⟨x4, rfl, b4, d4⟩ := rG_ref (by decide) g4
  obtain ⟨m1, m2, m3, m4⟩ := hM0
  obtain ⟨M, hM⟩ := rMe_ex hH b0 d0
  obtain ⟨a0, c0, fs0, w0, e1, s0, t0, e4⟩ := m1 (0, 12, 4) (List.mem_of_getElem? (i := 0) rfl)
  obtain rfl : x0 = a0 := Sum.inl.inj (Option.some.inj (Sum.inr.inj (Sum.inr.inj (Option.some.inj (show some (rR x0) = some _ from e1)))))
  obtain rfl : rR x4 = w0 := Option.some.inj (show some (rR x4) = some w0 from e4)
  clear e1 e4
  obtain ⟨a, mc0, ty0, gc0, ic0, e1, sc0, jc0, e4, e5⟩ := m2 (4, ([(1, 1)], 0), 3) (List.mem_of_getElem? (i := 0) rfl)
  obtain rfl : x4 = a := Sum.inl.inj (Option.some.inj (Sum.inr.inj (Sum.inr.inj (Option.some.inj (show some (rR x4) = some _ from e1)))))
  obtain ⟨gc0, rfl⟩ : ∃ g, gc0 = .inl g := by
    rcases gc0 with g | g
    · exact ⟨g, rfl⟩
    · exact absurd (show some (rI x3) = some (.inr (.inl (g ic0))) from e5) (fun h => by cases h)
  have sc0 : σ x4 = .inl (ty0, mc0, .inl gc0) := sc0
  have ec0 : x3 = gc0 ic0 := Sum.inl.inj (Option.some.inj (show some (rI x3) = some _ from e5))
  have kc0 : (ic0 : Int) = (1 * x1.toInt + 0) + 0 := by
    obtain ⟨z, e6, e7⟩ := e4
    obtain rfl : (1 * x1.toInt + 0) = z := Option.some.inj (show some (1 * x1.toInt + 0) = some z from e6)
    exact e7
  clear e1 e4 e5
  have l0 : 0 ≤ (1 * x2.toInt + (-1 * x1.toInt + 0)) + -1 := by
    obtain ⟨z, e6, e7⟩ := m3 ([(2, 1), (1, -1)], -1) (List.mem_of_getElem? (i := 0) rfl)
    obtain rfl : (1 * x2.toInt + (-1 * x1.toInt + 0)) = z := Option.some.inj (show some (1 * x2.toInt + (-1 * x1.toInt + 0)) = some z from e6)
    exact e7
  have f0 : rB K n p 170 [rR x0, rI x2] σ := by
    obtain ⟨w, e6, e7⟩ := m4 (2722, [0, 2]) (List.mem_of_getElem? (i := 0) rfl)
    obtain rfl : [rR x0, rI x2] = w := Option.some.inj (show some [rR x0, rI x2] = some w from e6)
    exact (rF_b (r := 2722) (by decide) rfl).mp e7
  have f0 := ro_170.mp f0
  have f1 : rB K n p 90 [rR x0, rI x1] σ := by
    obtain ⟨w, e6, e7⟩ := m4 (1442, [0, 1]) (List.mem_of_getElem? (i := 1) rfl)
    obtain rfl : [rR x0, rI x1] = w := Option.some.inj (show some [rR x0, rI x1] = some w from e6)
    exact (rF_b (r := 1442) (by decide) rfl).mp e7
  have f1 := ro_90.mp f1
  have f2 : rB K n p 24 [] σ := by
    obtain ⟨w, e6, e7⟩ := m4 (384, []) (List.mem_of_getElem? (i := 2) rfl)
    obtain rfl : [] = w := Option.some.inj (show some [] = some w from e6)
    exact (rF_b (r := 384) (by decide) rfl).mp e7
  have f2 := ro_24.mp f2
  clear m1 m2 m3 m4
  have q0 : rB K n (rSh rS1 p [rI x3, rI x3]) 24 [] σ := ro_24.mpr (by
    obtain ⟨hp, gM, gS, h1, h2, h3, h4, h5⟩ := f1
    obtain ⟨gM', gS', gP, k1, k2, k3, k⟩ := f0
    obtain rfl := rRo_u h1 k1
    obtain rfl := rRo_u h2 k2
    have e3 := rRo_c (i := ic0) k3 s0 t0 sc0 ec0
    rw [show ic0 = x1.toInt.toNat by omega] at e3
    rw [rSh_pa hp]
    obtain ⟨d0', d1', hv, hk, -, ha⟩ := f2
    refine ⟨d0', d1', hv, hk, rPs_m (q := rPaq gM gS gP x1.toInt) (fun j j0 j1 => ?_) h4 e3 (k _ b1 (by omega)), ha⟩
    show (if 0 ≤ j ∧ j ≤ 63 then (gM (64 * x1.toInt + j).toNat).toInt else 0) = p.1.1 j
    rw [if_pos ⟨j0, j1⟩]
    exact h5 j j0 j1)
  exact ⟨p, fun _ => rfl, ⟨(fun q h => by cases h), fun q h => (by cases h), (fun f h => by cases h), (aAllc ⟨_, rfl, (rF_g (r := 384) (by decide)).mpr q0⟩ (fun f h => by cases h))⟩, [], List.mem_cons_self, fun f h => (by cases h)⟩
theorem rw_rvHKs {K : Nat → Nat} {n : Nat} {JX : (Nat → jcell) → Prop} : aGho (rF K n) fa_T K n JX ag_rvHKs := by
  refine aGho_of ⟨rfl, rfl⟩ ?_
  intro p σ ρ hH hX hA hM0
  have hG := aAG_of hA.1 (fun i e v he hv => (hA.2 i e v he hv).1)
  clear hA
  obtain ⟨v0, rfl, g0⟩ := rA_1 hG
  clear hG
  obtain ⟨x0, rfl, b0, d0⟩ := rG_ref (by decide) g0
  obtain ⟨m1, m2, m3, m4⟩ := hM0
  obtain ⟨M, hM⟩ := rMe_ex hH b0 d0
  have f0 : rB K n p 22 [rR x0] σ := by
    obtain ⟨w, e6, e7⟩ := m4 (353, [0]) (List.mem_of_getElem? (i := 0) rfl)
    obtain rfl : [rR x0] = w := Option.some.inj (show some [rR x0] = some w from e6)
    exact (rF_b (r := 353) (by decide) rfl).mp e7
  obtain ⟨hp, hR⟩ := ro_22.mp f0
  obtain rfl := rMg_u hM hR.1
  have f1 : rB K n p 24 [] σ := by
    obtain ⟨w, e6, e7⟩ := m4 (384, []) (List.mem_of_getElem? (i := 1) rfl)
    obtain rfl : [] = w := Option.some.inj (show some [] = some w from e6)
    exact (rF_b (r := 384) (by decide) rfl).mp e7
  have f1 := ro_24.mp f1
  clear m1 m2 m3 m4
  have q0 : rB K n p 139 [rR x0] σ := ro_139.mpr ⟨_, hM, by
    exact f1.2.2.2.1⟩
  exact ⟨p, fun _ => rfl, ⟨(fun q h => by cases h), fun q h => (by cases h), (fun f h => by cases h), (aAllc ⟨_, rfl, (rF_b (r := 2225) (by decide) rfl).mpr q0⟩ (fun f h => by cases h))⟩, [], List.mem_cons_self, fun f h => (by cases h)⟩
theorem rw_rvLd {K : Nat → Nat} {n : Nat} {JX : (Nat → jcell) → Prop} : aGho (rF K n) fa_T K n JX ag_rvLd := by
  refine aGho_of ⟨rfl, rfl⟩ ?_
  intro p σ ρ hH hX hA hM0
  have hG := aAG_of hA.1 (fun i e v he hv => (hA.2 i e v he hv).1)
  clear hA
  obtain ⟨v0, v1, v2, v3, v4, v5, rfl, g0, g1, g2, g3, g4, g5⟩ := rA_6 hG
  clear hG
  obtain ⟨x0, rfl, b0, d0⟩ := rG_ref (by decide) g0
  obtain ⟨x1, rfl, b1, d1⟩ := rG_ref (by decide) g1
  obtain ⟨x2, rfl, b2, d2⟩ := aG_int g2
  dsimp only at b2 d2
  obtain ⟨x3, rfl, b3, d3⟩ := aG_int g3
  dsimp only at b3 d3
  obtain ⟨x4, rfl, b4, d4⟩ := aG_int g4
  dsimp only at b4 d4
  obtain ⟨x5, rfl, b5, d5⟩ := aG_int g5
  dsimp only at b5 d5
  obtain ⟨m1, m2, m3, m4⟩ := hM0
  obtain ⟨M, hM⟩ := rMe_ex hH b0 d0
  obtain ⟨a0, c0, fs0, w0, e1, s0, t0, e4⟩ := m1 (0, 21, 1) (List.mem_of_getElem? (i := 0) rfl)
  obtain rfl : x0 = a0 := Sum.inl.inj (Option.some.inj (Sum.inr.inj (Sum.inr.inj (Option.some.inj (show some (rR x0) = some _ from e1)))))
  obtain rfl : rR x1 = w0 := Option.some.inj (show some (rR x1) = some w0 from e4)
  clear e1 e4
  obtain ⟨a, mc0, ty0, gc0, ic0, e1, sc0, jc0, e4, e5⟩ := m2 (1, ([(2, 2048), (4, 1)], 0), 5) (List.mem_of_getElem? (i := 0) rfl)
  obtain rfl : x1 = a := Sum.inl.inj (Option.some.inj (Sum.inr.inj (Sum.inr.inj (Option.some.inj (show some (rR x1) = some _ from e1)))))
  obtain ⟨gc0, rfl⟩ : ∃ g, gc0 = .inl g := by
    rcases gc0 with g | g
    · exact ⟨g, rfl⟩
    · exact absurd (show some (rI x5) = some (.inr (.inl (g ic0))) from e5) (fun h => by cases h)
  have sc0 : σ x1 = .inl (ty0, mc0, .inl gc0) := sc0
  have ec0 : x5 = gc0 ic0 := Sum.inl.inj (Option.some.inj (show some (rI x5) = some _ from e5))
  have kc0 : (ic0 : Int) = (2048 * x2.toInt + (1 * x4.toInt + 0)) + 0 := by
    obtain ⟨z, e6, e7⟩ := e4
    obtain rfl : (2048 * x2.toInt + (1 * x4.toInt + 0)) = z := Option.some.inj (show some (2048 * x2.toInt + (1 * x4.toInt + 0)) = some z from e6)
    exact e7
  clear e1 e4 e5
  have l0 : 0 ≤ (1 * x3.toInt + (-1 * x4.toInt + 0)) + -1 := by
    obtain ⟨z, e6, e7⟩ := m3 ([(3, 1), (4, -1)], -1) (List.mem_of_getElem? (i := 0) rfl)
    obtain rfl : (1 * x3.toInt + (-1 * x4.toInt + 0)) = z := Option.some.inj (show some (1 * x3.toInt + (-1 * x4.toInt + 0)) = some z from e6)
    exact e7
  have f0 : rB K n p 76 [rR x0, rI x2, rI x3] σ := by
    obtain ⟨w, e6, e7⟩ := m4 (1219, [0, 2, 3]) (List.mem_of_getElem? (i := 0) rfl)
    obtain rfl : [rR x0, rI x2, rI x3] = w := Option.some.inj (show some [rR x0, rI x2, rI x3] = some w from e6)
    exact (rF_b (r := 1219) (by decide) rfl).mp e7
  have f0 := ro_76.mp f0
  clear m1 m2 m3 m4
  have q0 : rB K n p 25 [rI x5] σ := ro_25.mpr (by
    obtain ⟨hp, h1, g, h3, h4⟩ := f0
    have e1 := rRo_c (i := ic0) h3 s0 t0 sc0 ec0
    have h5 := h4 (by omega) x4.toInt b4 (by omega)
    rw [show (2048 * x2.toInt + x4.toInt).toNat = ic0 by omega, e1] at h5
    exact h5.1)
  have q1 : rB K n (rSh rS1 p [rR x0, rI x5]) 24 [] σ := ro_24.mpr (by
    obtain ⟨hp, h1, g, h3, h4⟩ := f0
    have e1 := rRo_c (i := ic0) h3 s0 t0 sc0 ec0
    have h5 := h4 (by omega) x4.toInt b4 (by omega)
    rw [show (2048 * x2.toInt + x4.toInt).toNat = ic0 by omega, e1] at h5
    rw [rSh_mk hp]
    exact h5.2)
  exact ⟨p, fun _ => rfl, ⟨(fun q h => by cases h), fun q h => (by cases h), (fun f h => by cases h), (aAllc ⟨_, rfl, (rF_b (r := 401) (by decide) rfl).mpr q0⟩ (aAllc ⟨_, rfl, (rF_g (r := 384) (by decide)).mpr q1⟩ (fun f h => by cases h)))⟩, [], List.mem_cons_self, fun f h => (by cases h)⟩
theorem rw_rvCLm {K : Nat → Nat} {n : Nat} {JX : (Nat → jcell) → Prop} : aGho (rF K n) fa_T K n JX ag_rvCLm := by
  refine aGho_of ⟨rfl, rfl⟩ ?_
  intro p σ ρ hH hX hA hM0
  have hG := aAG_of hA.1 (fun i e v he hv => (hA.2 i e v he hv).1)
  clear hA
  obtain ⟨v0, v1, v2, rfl, g0, g1, g2⟩ := rA_3 hG
  clear hG
  obtain ⟨x0, rfl, b0, d0⟩ := rG_ref (by decide) g0
  obtain ⟨x1, rfl, b1, d1⟩ := aG_int g1
  dsimp only at b1 d1
  obtain ⟨x2, rfl, b2, d2⟩ := aG_int g2
  dsimp only at b2 d2
  obtain ⟨m1, m2, m3, m4⟩ := hM0
  obtain ⟨M, hM⟩ := rMe_ex hH b0 d0
  have f0 : rB K n p 76 [rR x0, rI x1, rI x2] σ := by
    obtain ⟨w, e6, e7⟩ := m4 (1219, [0, 1, 2]) (List.mem_of_getElem? (i := 0) rfl)
    obtain rfl : [rR x0, rI x1, rI x2] = w := Option.some.inj (show some [rR x0, rI x1, rI x2] = some w from e6)
    exact (rF_b (r := 1219) (by decide) rfl).mp e7
  have f0 := ro_76.mp f0
  have f1 : rB K n p 168 [rR x0, rI x1, rI x2] σ := by
    obtain ⟨w, e6, e7⟩ := m4 (2691, [0, 1, 2]) (List.mem_of_getElem? (i := 1) rfl)
    obtain rfl : [rR x0, rI x1, rI x2] = w := Option.some.inj (show some [rR x0, rI x1, rI x2] = some w from e6)
    exact (rF_b (r := 2691) (by decide) rfl).mp e7
  have f1 := ro_168.mp f1
  clear m1 m2 m3 m4
  have q0 : rB K n p 91 [rR x0, rI x1] σ := ro_91.mpr (by
    exact ⟨f0.1, x2.toInt, f0.2.1, f1, f0.2.2⟩)
  exact ⟨p, fun _ => rfl, ⟨(fun q h => by cases h), fun q h => (by cases h), (fun f h => by cases h), (aAllc ⟨_, rfl, (rF_b (r := 1458) (by decide) rfl).mpr q0⟩ (fun f h => by cases h))⟩, [], List.mem_cons_self, fun f h => (by cases h)⟩
theorem rw_rvCLc {K : Nat → Nat} {n : Nat} {JX : (Nat → jcell) → Prop} : aGho (rF K n) fa_T K n JX ag_rvCLc := by
  refine aGho_of ⟨rfl, rfl⟩ ?_
  intro p σ ρ hH hX hA hM0
  have hG := aAG_of hA.1 (fun i e v he hv => (hA.2 i e v he hv).1)
  clear hA
  obtain ⟨v0, v1, v2, rfl, g0, g1, g2⟩ := rA_3 hG
  clear hG
  obtain ⟨x0, rfl, b0, d0⟩ := rG_ref (by decide) g0
  obtain ⟨x1, rfl, b1, d1⟩ := aG_int g1
  dsimp only at b1 d1
  obtain ⟨x2, rfl, b2, d2⟩ := aG_int g2
  dsimp only at b2 d2
  obtain ⟨m1, m2, m3, m4⟩ := hM0
  obtain ⟨M, hM⟩ := rMe_ex hH b0 d0
  have l0 : 0 ≤ (1 * x1.toInt + (-1 * x2.toInt + 0)) + 0 := by
    obtain ⟨z, e6, e7⟩ := m3 ([(1, 1), (2, -1)], 0) (List.mem_of_getElem? (i := 0) rfl)
    obtain rfl : (1 * x1.toInt + (-1 * x2.toInt + 0)) = z := Option.some.inj (show some (1 * x1.toInt + (-1 * x2.toInt + 0)) = some z from e6)
    exact e7
  have l1 : 0 ≤ (-1 * x1.toInt + (1 * x2.toInt + 0)) + 0 := by
    obtain ⟨z, e6, e7⟩ := m3 ([(1, -1), (2, 1)], 0) (List.mem_of_getElem? (i := 1) rfl)
    obtain rfl : (-1 * x1.toInt + (1 * x2.toInt + 0)) = z := Option.some.inj (show some (-1 * x1.toInt + (1 * x2.toInt + 0)) = some z from e6)
    exact e7
  have f0 : rB K n p 91 [rR x0, rI x1] σ := by
    obtain ⟨w, e6, e7⟩ := m4 (1458, [0, 1]) (List.mem_of_getElem? (i := 0) rfl)
    obtain rfl : [rR x0, rI x1] = w := Option.some.inj (show some [rR x0, rI x1] = some w from e6)
    exact (rF_b (r := 1458) (by decide) rfl).mp e7
  have f0 := ro_91.mp f0
  clear m1 m2 m3 m4
  have q0 : rB K n p 91 [rR x0, rI x2] σ := ro_91.mpr (by
    rw [show x2.toInt = x1.toInt by omega]
    exact f0)
  exact ⟨p, fun _ => rfl, ⟨(fun q h => by cases h), fun q h => (by cases h), (fun f h => by cases h), (aAllc ⟨_, rfl, (rF_b (r := 1458) (by decide) rfl).mpr q0⟩ (fun f h => by cases h))⟩, [], List.mem_cons_self, fun f h => (by cases h)⟩
theorem rw_rvCV {K : Nat → Nat} {n : Nat} {JX : (Nat → jcell) → Prop} : aGho (rF K n) fa_T K n JX ag_rvCV := by
  refine aGho_of ⟨rfl, rfl⟩ ?_
  intro p σ ρ hH hX hA hM0
  have hG := aAG_of hA.1 (fun i e v he hv => (hA.2 i e v he hv).1)
  clear hA
  obtain ⟨v0, v1, v2, v3, rfl, g0, g1, g2, g3⟩ := rA_4 hG
  clear hG
  obtain ⟨x0, rfl, b0, d0⟩ := rG_ref (by decide) g0
  obtain ⟨x1, rfl, b1, d1⟩ := rG_ref (by decide) g1
  obtain ⟨x2, rfl, b2, d2⟩ := aG_int g2
  dsimp only at b2 d2
  obtain ⟨x3, rfl, b3, d3⟩ := aG_int g3
  dsimp only at b3 d3
  obtain ⟨m1, m2, m3, m4⟩ := hM0
  obtain ⟨M, hM⟩ := rMe_ex hH b0 d0
  obtain ⟨a0, c0, fs0, w0, e1, s0, t0, e4⟩ := m1 (0, 22, 1) (List.mem_of_getElem? (i := 0) rfl)
  obtain rfl : x0 = a0 := Sum.inl.inj (Option.some.inj (Sum.inr.inj (Sum.inr.inj (Option.some.inj (show some (rR x0) = some _ from e1)))))
  obtain rfl : rR x1 = w0 := Option.some.inj (show some (rR x1) = some w0 from e4)
  clear e1 e4
  obtain ⟨a, mc0, ty0, gc0, ic0, e1, sc0, jc0, e4, e5⟩ := m2 (1, ([(2, 1)], 0), 3) (List.mem_of_getElem? (i := 0) rfl)
  obtain rfl : x1 = a := Sum.inl.inj (Option.some.inj (Sum.inr.inj (Sum.inr.inj (Option.some.inj (show some (rR x1) = some _ from e1)))))
  obtain ⟨gc0, rfl⟩ : ∃ g, gc0 = .inl g := by
    rcases gc0 with g | g
    · exact ⟨g, rfl⟩
    · exact absurd (show some (rI x3) = some (.inr (.inl (g ic0))) from e5) (fun h => by cases h)
  have sc0 : σ x1 = .inl (ty0, mc0, .inl gc0) := sc0
  have ec0 : x3 = gc0 ic0 := Sum.inl.inj (Option.some.inj (show some (rI x3) = some _ from e5))
  have kc0 : (ic0 : Int) = (1 * x2.toInt + 0) + 0 := by
    obtain ⟨z, e6, e7⟩ := e4
    obtain rfl : (1 * x2.toInt + 0) = z := Option.some.inj (show some (1 * x2.toInt + 0) = some z from e6)
    exact e7
  clear e1 e4 e5
  have f0 : rB K n p 91 [rR x0, rI x2] σ := by
    obtain ⟨w, e6, e7⟩ := m4 (1458, [0, 2]) (List.mem_of_getElem? (i := 0) rfl)
    obtain rfl : [rR x0, rI x2] = w := Option.some.inj (show some [rR x0, rI x2] = some w from e6)
    exact (rF_b (r := 1458) (by decide) rfl).mp e7
  have f0 := ro_91.mp f0
  clear m1 m2 m3 m4
  have q0 : rB K n p 92 [rR x0, rI x2, rI x3] σ := ro_92.mpr (by
    obtain ⟨hp, c, h1, h2, h3⟩ := f0
    obtain ⟨h4, g, h5, e⟩ := h2
    have e1 := rRo_c (i := ic0) h5 s0 t0 sc0 ec0
    rw [show ic0 = x2.toInt.toNat by omega, e] at e1
    subst e1
    exact ⟨hp, h1, ⟨h4, g, h5, e⟩, h3⟩)
  exact ⟨p, fun _ => rfl, ⟨(fun q h => by cases h), fun q h => (by cases h), (fun f h => by cases h), (aAllc ⟨_, rfl, (rF_b (r := 1475) (by decide) rfl).mpr q0⟩ (fun f h => by cases h))⟩, [], List.mem_cons_self, fun f h => (by cases h)⟩
theorem rw_rvLdv {K : Nat → Nat} {n : Nat} {JX : (Nat → jcell) → Prop} : aGho (rF K n) fa_T K n JX ag_rvLdv := by
  refine aGho_of ⟨rfl, rfl⟩ ?_
  intro p σ ρ hH hX hA hM0
  have hG := aAG_of hA.1 (fun i e v he hv => (hA.2 i e v he hv).1)
  clear hA
  obtain ⟨v0, v1, v2, v3, v4, v5, rfl, g0, g1, g2, g3, g4, g5⟩ := rA_6 hG
  clear hG
  obtain ⟨x0, rfl, b0, d0⟩ := rG_ref (by decide) g0
  obtain ⟨x1, rfl, b1, d1⟩ := rG_ref (by decide) g1
  obtain ⟨x2, rfl, b2, d2⟩ := aG_int g2
  dsimp only at b2 d2
  obtain ⟨x3, rfl, b3, d3⟩ := aG_int g3
  dsimp only at b3 d3
  obtain ⟨x4, rfl, b4, d4⟩ := aG_int g4
  dsimp only at b4 d4
  obtain ⟨x5, rfl, b5, d5⟩ := aG_int g5
  dsimp only at b5 d5
  obtain ⟨m1, m2, m3, m4⟩ := hM0
  obtain ⟨M, hM⟩ := rMe_ex hH b0 d0
  obtain ⟨a0, c0, fs0, w0, e1, s0, t0, e4⟩ := m1 (0, 21, 1) (List.mem_of_getElem? (i := 0) rfl)
  obtain rfl : x0 = a0 := Sum.inl.inj (Option.some.inj (Sum.inr.inj (Sum.inr.inj (Option.some.inj (show some (rR x0) = some _ from e1)))))
  obtain rfl : rR x1 = w0 := Option.some.inj (show some (rR x1) = some w0 from e4)
  clear e1 e4
  obtain ⟨a, mc0, ty0, gc0, ic0, e1, sc0, jc0, e4, e5⟩ := m2 (1, ([(2, 2048), (4, 1)], 0), 5) (List.mem_of_getElem? (i := 0) rfl)
  obtain rfl : x1 = a := Sum.inl.inj (Option.some.inj (Sum.inr.inj (Sum.inr.inj (Option.some.inj (show some (rR x1) = some _ from e1)))))
  obtain ⟨gc0, rfl⟩ : ∃ g, gc0 = .inl g := by
    rcases gc0 with g | g
    · exact ⟨g, rfl⟩
    · exact absurd (show some (rI x5) = some (.inr (.inl (g ic0))) from e5) (fun h => by cases h)
  have sc0 : σ x1 = .inl (ty0, mc0, .inl gc0) := sc0
  have ec0 : x5 = gc0 ic0 := Sum.inl.inj (Option.some.inj (show some (rI x5) = some _ from e5))
  have kc0 : (ic0 : Int) = (2048 * x2.toInt + (1 * x4.toInt + 0)) + 0 := by
    obtain ⟨z, e6, e7⟩ := e4
    obtain rfl : (2048 * x2.toInt + (1 * x4.toInt + 0)) = z := Option.some.inj (show some (2048 * x2.toInt + (1 * x4.toInt + 0)) = some z from e6)
    exact e7
  clear e1 e4 e5
  have l0 : 0 ≤ (1 * x3.toInt + (-1 * x4.toInt + 0)) + -1 := by
    obtain ⟨z, e6, e7⟩ := m3 ([(3, 1), (4, -1)], -1) (List.mem_of_getElem? (i := 0) rfl)
    obtain rfl : (1 * x3.toInt + (-1 * x4.toInt + 0)) = z := Option.some.inj (show some (1 * x3.toInt + (-1 * x4.toInt + 0)) = some z from e6)
    exact e7
  have f0 : rB K n p 92 [rR x0, rI x2, rI x3] σ := by
    obtain ⟨w, e6, e7⟩ := m4 (1475, [0, 2, 3]) (List.mem_of_getElem? (i := 0) rfl)
    obtain rfl : [rR x0, rI x2, rI x3] = w := Option.some.inj (show some [rR x0, rI x2, rI x3] = some w from e6)
    exact (rF_b (r := 1475) (by decide) rfl).mp e7
  have f0 := ro_92.mp f0
  clear m1 m2 m3 m4
  have q0 : rB K n p 25 [rI x5] σ := ro_25.mpr (by
    obtain ⟨hp, h1, h2, g, h3, h4⟩ := f0
    have e1 := rRo_c (i := ic0) h3 s0 t0 sc0 ec0
    have h5 := h4 (by omega) x4.toInt b4 (by omega)
    rw [show (2048 * x2.toInt + x4.toInt).toNat = ic0 by omega, e1] at h5
    exact h5.1)
  have q1 : rB K n (rSh rS1 p [rR x0, rI x5]) 24 [] σ := ro_24.mpr (by
    obtain ⟨hp, h1, h2, g, h3, h4⟩ := f0
    have e1 := rRo_c (i := ic0) h3 s0 t0 sc0 ec0
    have h5 := h4 (by omega) x4.toInt b4 (by omega)
    rw [show (2048 * x2.toInt + x4.toInt).toNat = ic0 by omega, e1] at h5
    rw [rSh_mk hp]
    exact h5.2)
  exact ⟨p, fun _ => rfl, ⟨(fun q h => by cases h), fun q h => (by cases h), (fun f h => by cases h), (aAllc ⟨_, rfl, (rF_b (r := 401) (by decide) rfl).mpr q0⟩ (aAllc ⟨_, rfl, (rF_g (r := 384) (by decide)).mpr q1⟩ (fun f h => by cases h)))⟩, [], List.mem_cons_self, fun f h => (by cases h)⟩
theorem rw_rvLdv0 {K : Nat → Nat} {n : Nat} {JX : (Nat → jcell) → Prop} : aGho (rF K n) fa_T K n JX ag_rvLdv0 := by
  refine aGho_of ⟨rfl, rfl⟩ ?_
  intro p σ ρ hH hX hA hM0
  have hG := aAG_of hA.1 (fun i e v he hv => (hA.2 i e v he hv).1)
  clear hA
  obtain ⟨v0, v1, v2, v3, v4, v5, rfl, g0, g1, g2, g3, g4, g5⟩ := rA_6 hG
  clear hG
  obtain ⟨x0, rfl, b0, d0⟩ := rG_ref (by decide) g0
  obtain ⟨x1, rfl, b1, d1⟩ := rG_ref (by decide) g1
  obtain ⟨x2, rfl, b2, d2⟩ := aG_int g2
  dsimp only at b2 d2
  obtain ⟨x3, rfl, b3, d3⟩ := aG_int g3
  dsimp only at b3 d3
  obtain ⟨x4, rfl, b4, d4⟩ := aG_int g4
  dsimp only at b4 d4
  obtain ⟨x5, rfl, b5, d5⟩ := aG_int g5
  dsimp only at b5 d5
  obtain ⟨m1, m2, m3, m4⟩ := hM0
  obtain ⟨M, hM⟩ := rMe_ex hH b0 d0
  obtain ⟨a0, c0, fs0, w0, e1, s0, t0, e4⟩ := m1 (0, 21, 1) (List.mem_of_getElem? (i := 0) rfl)
  obtain rfl : x0 = a0 := Sum.inl.inj (Option.some.inj (Sum.inr.inj (Sum.inr.inj (Option.some.inj (show some (rR x0) = some _ from e1)))))
  obtain rfl : rR x1 = w0 := Option.some.inj (show some (rR x1) = some w0 from e4)
  clear e1 e4
  obtain ⟨a, mc0, ty0, gc0, ic0, e1, sc0, jc0, e4, e5⟩ := m2 (1, ([(4, 1)], 0), 5) (List.mem_of_getElem? (i := 0) rfl)
  obtain rfl : x1 = a := Sum.inl.inj (Option.some.inj (Sum.inr.inj (Sum.inr.inj (Option.some.inj (show some (rR x1) = some _ from e1)))))
  obtain ⟨gc0, rfl⟩ : ∃ g, gc0 = .inl g := by
    rcases gc0 with g | g
    · exact ⟨g, rfl⟩
    · exact absurd (show some (rI x5) = some (.inr (.inl (g ic0))) from e5) (fun h => by cases h)
  have sc0 : σ x1 = .inl (ty0, mc0, .inl gc0) := sc0
  have ec0 : x5 = gc0 ic0 := Sum.inl.inj (Option.some.inj (show some (rI x5) = some _ from e5))
  have kc0 : (ic0 : Int) = (1 * x4.toInt + 0) + 0 := by
    obtain ⟨z, e6, e7⟩ := e4
    obtain rfl : (1 * x4.toInt + 0) = z := Option.some.inj (show some (1 * x4.toInt + 0) = some z from e6)
    exact e7
  clear e1 e4 e5
  have l0 : 0 ≤ (1 * x3.toInt + (-1 * x4.toInt + 0)) + -1 := by
    obtain ⟨z, e6, e7⟩ := m3 ([(3, 1), (4, -1)], -1) (List.mem_of_getElem? (i := 0) rfl)
    obtain rfl : (1 * x3.toInt + (-1 * x4.toInt + 0)) = z := Option.some.inj (show some (1 * x3.toInt + (-1 * x4.toInt + 0)) = some z from e6)
    exact e7
  have f0 : rB K n p 92 [rR x0, rI x2, rI x3] σ := by
    obtain ⟨w, e6, e7⟩ := m4 (1475, [0, 2, 3]) (List.mem_of_getElem? (i := 0) rfl)
    obtain rfl : [rR x0, rI x2, rI x3] = w := Option.some.inj (show some [rR x0, rI x2, rI x3] = some w from e6)
    exact (rF_b (r := 1475) (by decide) rfl).mp e7
  have f0 := ro_92.mp f0
  clear m1 m2 m3 m4
  have q0 : rB K n p 25 [rI x5] σ := ro_25.mpr (by
    obtain ⟨hp, h1, h2, g, h3, h4⟩ := f0
    have e1 := rRo_c (i := ic0) h3 s0 t0 sc0 ec0
    have h5 := h4 (by omega) x4.toInt b4 (by omega)
    rw [show (2048 * x2.toInt + x4.toInt).toNat = ic0 by omega, e1] at h5
    exact h5.1)
  have q1 : rB K n (rSh rS1 p [rR x0, rI x5]) 24 [] σ := ro_24.mpr (by
    obtain ⟨hp, h1, h2, g, h3, h4⟩ := f0
    have e1 := rRo_c (i := ic0) h3 s0 t0 sc0 ec0
    have h5 := h4 (by omega) x4.toInt b4 (by omega)
    rw [show (2048 * x2.toInt + x4.toInt).toNat = ic0 by omega, e1] at h5
    rw [rSh_mk hp]
    exact h5.2)
  exact ⟨p, fun _ => rfl, ⟨(fun q h => by cases h), fun q h => (by cases h), (fun f h => by cases h), (aAllc ⟨_, rfl, (rF_b (r := 401) (by decide) rfl).mpr q0⟩ (aAllc ⟨_, rfl, (rF_g (r := 384) (by decide)).mpr q1⟩ (fun f h => by cases h)))⟩, [], List.mem_cons_self, fun f h => (by cases h)⟩
theorem rw_rvLdv1 {K : Nat → Nat} {n : Nat} {JX : (Nat → jcell) → Prop} : aGho (rF K n) fa_T K n JX ag_rvLdv1 := by
  refine aGho_of ⟨rfl, rfl⟩ ?_
  intro p σ ρ hH hX hA hM0
  have hG := aAG_of hA.1 (fun i e v he hv => (hA.2 i e v he hv).1)
  clear hA
  obtain ⟨v0, v1, v2, v3, v4, v5, rfl, g0, g1, g2, g3, g4, g5⟩ := rA_6 hG
  clear hG
  obtain ⟨x0, rfl, b0, d0⟩ := rG_ref (by decide) g0
  obtain ⟨x1, rfl, b1, d1⟩ := rG_ref (by decide) g1
  obtain ⟨x2, rfl, b2, d2⟩ := aG_int g2
  dsimp only at b2 d2
  obtain ⟨x3, rfl, b3, d3⟩ := aG_int g3
  dsimp only at b3 d3
  obtain ⟨x4, rfl, b4, d4⟩ := aG_int g4
  dsimp only at b4 d4
  obtain ⟨x5, rfl, b5, d5⟩ := aG_int g5
  dsimp only at b5 d5
  obtain ⟨m1, m2, m3, m4⟩ := hM0
  obtain ⟨M, hM⟩ := rMe_ex hH b0 d0
  obtain ⟨a0, c0, fs0, w0, e1, s0, t0, e4⟩ := m1 (0, 21, 1) (List.mem_of_getElem? (i := 0) rfl)
  obtain rfl : x0 = a0 := Sum.inl.inj (Option.some.inj (Sum.inr.inj (Sum.inr.inj (Option.some.inj (show some (rR x0) = some _ from e1)))))
  obtain rfl : rR x1 = w0 := Option.some.inj (show some (rR x1) = some w0 from e4)
  clear e1 e4
  obtain ⟨a, mc0, ty0, gc0, ic0, e1, sc0, jc0, e4, e5⟩ := m2 (1, ([(4, 1)], 2048), 5) (List.mem_of_getElem? (i := 0) rfl)
  obtain rfl : x1 = a := Sum.inl.inj (Option.some.inj (Sum.inr.inj (Sum.inr.inj (Option.some.inj (show some (rR x1) = some _ from e1)))))
  obtain ⟨gc0, rfl⟩ : ∃ g, gc0 = .inl g := by
    rcases gc0 with g | g
    · exact ⟨g, rfl⟩
    · exact absurd (show some (rI x5) = some (.inr (.inl (g ic0))) from e5) (fun h => by cases h)
  have sc0 : σ x1 = .inl (ty0, mc0, .inl gc0) := sc0
  have ec0 : x5 = gc0 ic0 := Sum.inl.inj (Option.some.inj (show some (rI x5) = some _ from e5))
  have kc0 : (ic0 : Int) = (1 * x4.toInt + 0) + 2048 := by
    obtain ⟨z, e6, e7⟩ := e4
    obtain rfl : (1 * x4.toInt + 0) = z := Option.some.inj (show some (1 * x4.toInt + 0) = some z from e6)
    exact e7
  clear e1 e4 e5
  have l0 : 0 ≤ (1 * x3.toInt + (-1 * x4.toInt + 0)) + -1 := by
    obtain ⟨z, e6, e7⟩ := m3 ([(3, 1), (4, -1)], -1) (List.mem_of_getElem? (i := 0) rfl)
    obtain rfl : (1 * x3.toInt + (-1 * x4.toInt + 0)) = z := Option.some.inj (show some (1 * x3.toInt + (-1 * x4.toInt + 0)) = some z from e6)
    exact e7
  have f0 : rB K n p 92 [rR x0, rI x2, rI x3] σ := by
    obtain ⟨w, e6, e7⟩ := m4 (1475, [0, 2, 3]) (List.mem_of_getElem? (i := 0) rfl)
    obtain rfl : [rR x0, rI x2, rI x3] = w := Option.some.inj (show some [rR x0, rI x2, rI x3] = some w from e6)
    exact (rF_b (r := 1475) (by decide) rfl).mp e7
  have f0 := ro_92.mp f0
  clear m1 m2 m3 m4
  have q0 : rB K n p 25 [rI x5] σ := ro_25.mpr (by
    obtain ⟨hp, h1, h2, g, h3, h4⟩ := f0
    have e1 := rRo_c (i := ic0) h3 s0 t0 sc0 ec0
    have h5 := h4 (by omega) x4.toInt b4 (by omega)
    rw [show (2048 * x2.toInt + x4.toInt).toNat = ic0 by omega, e1] at h5
    exact h5.1)
  have q1 : rB K n (rSh rS1 p [rR x0, rI x5]) 24 [] σ := ro_24.mpr (by
    obtain ⟨hp, h1, h2, g, h3, h4⟩ := f0
    have e1 := rRo_c (i := ic0) h3 s0 t0 sc0 ec0
    have h5 := h4 (by omega) x4.toInt b4 (by omega)
    rw [show (2048 * x2.toInt + x4.toInt).toNat = ic0 by omega, e1] at h5
    rw [rSh_mk hp]
    exact h5.2)
  exact ⟨p, fun _ => rfl, ⟨(fun q h => by cases h), fun q h => (by cases h), (fun f h => by cases h), (aAllc ⟨_, rfl, (rF_b (r := 401) (by decide) rfl).mpr q0⟩ (aAllc ⟨_, rfl, (rF_g (r := 384) (by decide)).mpr q1⟩ (fun f h => by cases h)))⟩, [], List.mem_cons_self, fun f h => (by cases h)⟩
theorem rw_rvTRI0 {K : Nat → Nat} {n : Nat} {JX : (Nat → jcell) → Prop} : aGho (rF K n) fa_T K n JX ag_rvTRI0 := by
  refine aGho_of ⟨rfl, rfl⟩ ?_
  intro p σ ρ hH hX hA hM0
  have hG := aAG_of hA.1 (fun i e v he hv => (hA.2 i e v he hv).1)
  clear hA
  obtain ⟨v0, rfl, g0⟩ := rA_1 hG
  clear hG
  obtain ⟨x0, rfl, b0, d0⟩ := aG_int g0
  dsimp only at b0 d0
  obtain ⟨m1, m2, m3, m4⟩ := hM0
  clear m1 m2 m3 m4
  have hd : (0 ≤ (1 * x0.toInt + 0) + 0 ∧ 0 ≤ (-1 * x0.toInt + 0) + 0) ∨ (0 ≤ (1 * x0.toInt + 0) + -1) := by
    omega
  rcases hd with ⟨w0, w1⟩ | w0
  · exact ⟨p, fun _ => rfl, ⟨(fun q h => by cases h), fun q h => (by cases h), (fun f h => by cases h), (fun f h => by cases h)⟩, _, List.mem_of_getElem? (i := 0) rfl, (aAllc ⟨_, rfl, w0⟩ (aAllc ⟨_, rfl, w1⟩ (fun f h => by cases h)))⟩
  · exact ⟨p, fun _ => rfl, ⟨(fun q h => by cases h), fun q h => (by cases h), (fun f h => by cases h), (fun f h => by cases h)⟩, _, List.mem_of_getElem? (i := 1) rfl, (aAllc ⟨_, rfl, w0⟩ (fun f h => by cases h))⟩
theorem rw_rvCTr2 {K : Nat → Nat} {n : Nat} {JX : (Nat → jcell) → Prop} : aGho (rF K n) fa_T K n JX ag_rvCTr2 := by
  refine aGho_of ⟨rfl, rfl⟩ ?_
  intro p σ ρ hH hX hA hM0
  have hG := aAG_of hA.1 (fun i e v he hv => (hA.2 i e v he hv).1)
  clear hA
  obtain ⟨v0, v1, v2, v3, rfl, g0, g1, g2, g3⟩ := rA_4 hG
  clear hG
  obtain ⟨x0, rfl, b0, d0⟩ := rG_ref (by decide) g0
  obtain ⟨x1, rfl, b1, d1⟩ := rG_ref (by decide) g1
  obtain ⟨x2, rfl, b2, d2⟩ := aG_int g2
  dsimp only at b2 d2
  obtain ⟨x3, rfl, b3, d3⟩ := aG_int g3
  dsimp only at b3 d3
  obtain ⟨m1, m2, m3, m4⟩ := hM0
  obtain ⟨M, hM⟩ := rMe_ex hH b0 d0
  obtain ⟨a0, c0, fs0, w0, e1, s0, t0, e4⟩ := m1 (0, 22, 1) (List.mem_of_getElem? (i := 0) rfl)
  obtain rfl : x0 = a0 := Sum.inl.inj (Option.some.inj (Sum.inr.inj (Sum.inr.inj (Option.some.inj (show some (rR x0) = some _ from e1)))))
  obtain rfl : rR x1 = w0 := Option.some.inj (show some (rR x1) = some w0 from e4)
  clear e1 e4
  obtain ⟨a, mc0, ty0, gc0, ic0, e1, sc0, jc0, e4, e5⟩ := m2 (1, ([(2, 1)], 0), 3) (List.mem_of_getElem? (i := 0) rfl)
  obtain rfl : x1 = a := Sum.inl.inj (Option.some.inj (Sum.inr.inj (Sum.inr.inj (Option.some.inj (show some (rR x1) = some _ from e1)))))
  obtain ⟨gc0, rfl⟩ : ∃ g, gc0 = .inl g := by
    rcases gc0 with g | g
    · exact ⟨g, rfl⟩
    · exact absurd (show some (rI x3) = some (.inr (.inl (g ic0))) from e5) (fun h => by cases h)
  have sc0 : σ x1 = .inl (ty0, mc0, .inl gc0) := sc0
  have ec0 : x3 = gc0 ic0 := Sum.inl.inj (Option.some.inj (show some (rI x3) = some _ from e5))
  have kc0 : (ic0 : Int) = (1 * x2.toInt + 0) + 0 := by
    obtain ⟨z, e6, e7⟩ := e4
    obtain rfl : (1 * x2.toInt + 0) = z := Option.some.inj (show some (1 * x2.toInt + 0) = some z from e6)
    exact e7
  clear e1 e4 e5
  have f0 : rB K n p 179 [rR x0, rI x2] σ := by
    obtain ⟨w, e6, e7⟩ := m4 (2866, [0, 2]) (List.mem_of_getElem? (i := 0) rfl)
    obtain rfl : [rR x0, rI x2] = w := Option.some.inj (show some [rR x0, rI x2] = some w from e6)
    exact (rF_b (r := 2866) (by decide) rfl).mp e7
  have f0 := ro_179.mp f0
  clear m1 m2 m3 m4
  have r0 : 0 ≤ (1 * x3.toInt + 0) + -1 := by
    obtain ⟨cc, h1, h4, g, h5, e⟩ := f0
    have e1 := rRo_c (i := ic0) h5 s0 t0 sc0 ec0
    rw [show ic0 = x2.toInt.toNat by omega, e] at e1
    omega
  exact ⟨p, fun _ => rfl, ⟨(fun q h => by cases h), fun q h => (by cases h), (aAllc ⟨_, rfl, r0⟩ (fun f h => by cases h)), (fun f h => by cases h)⟩, [], List.mem_cons_self, fun f h => (by cases h)⟩
theorem rw_rvCN1 {K : Nat → Nat} {n : Nat} {JX : (Nat → jcell) → Prop} : aGho (rF K n) fa_T K n JX ag_rvCN1 := by
  refine aGho_of ⟨rfl, rfl⟩ ?_
  intro p σ ρ hH hX hA hM0
  have hG := aAG_of hA.1 (fun i e v he hv => (hA.2 i e v he hv).1)
  clear hA
  obtain ⟨v0, v1, v2, rfl, g0, g1, g2⟩ := rA_3 hG
  clear hG
  obtain ⟨x0, rfl, b0, d0⟩ := rG_ref (by decide) g0
  obtain ⟨x1, rfl, b1, d1⟩ := aG_int g1
  dsimp only at b1 d1
  obtain ⟨x2, rfl, b2, d2⟩ := aG_int g2
  dsimp only at b2 d2
  obtain ⟨m1, m2, m3, m4⟩ := hM0
  obtain ⟨M, hM⟩ := rMe_ex hH b0 d0
  have f0 : rB K n p 168 [rR x0, rI x1, rI x2] σ := by
    obtain ⟨w, e6, e7⟩ := m4 (2691, [0, 1, 2]) (List.mem_of_getElem? (i := 0) rfl)
    obtain rfl : [rR x0, rI x1, rI x2] = w := Option.some.inj (show some [rR x0, rI x1, rI x2] = some w from e6)
    exact (rF_b (r := 2691) (by decide) rfl).mp e7
  have f0 := ro_168.mp f0
  clear m1 m2 m3 m4
  have q0 : rB K n p 179 [rR x0, rI x1] σ := ro_179.mpr (by
    exact ⟨x2.toInt, by omega, f0⟩)
  exact ⟨p, fun _ => rfl, ⟨(fun q h => by cases h), fun q h => (by cases h), (fun f h => by cases h), (aAllc ⟨_, rfl, (rF_b (r := 2866) (by decide) rfl).mpr q0⟩ (fun f h => by cases h))⟩, [], List.mem_cons_self, fun f h => (by cases h)⟩
theorem rw_rvPGa {K : Nat → Nat} {n : Nat} {JX : (Nat → jcell) → Prop} : aGho (rF K n) fa_T K n JX ag_rvPGa := by
  refine aGho_of ⟨rfl, rfl⟩ ?_
  intro p σ ρ hH hX hA hM0
  have hG := aAG_of hA.1 (fun i e v he hv => (hA.2 i e v he hv).1)
  clear hA
  obtain ⟨v0, v1, v2, v3, rfl, g0, g1, g2, g3⟩ := rA_4 hG
  clear hG
  obtain ⟨x0, rfl, b0, d0⟩ := rG_ref (by decide) g0
  obtain ⟨x1, rfl, b1, d1⟩ := aG_int g1
  dsimp only at b1 d1
  obtain ⟨x2, rfl, b2, d2⟩ := aG_int g2
  dsimp only at b2 d2
  obtain ⟨x3, rfl, b3, d3⟩ := aG_int g3
  dsimp only at b3 d3
  obtain ⟨m1, m2, m3, m4⟩ := hM0
  obtain ⟨M, hM⟩ := rMe_ex hH b0 d0
  have l0 : 0 ≤ (1 * x3.toInt + (-1 * x1.toInt + (-1 * x2.toInt + 0))) + 0 := by
    obtain ⟨z, e6, e7⟩ := m3 ([(3, 1), (1, -1), (2, -1)], 0) (List.mem_of_getElem? (i := 0) rfl)
    obtain rfl : (1 * x3.toInt + (-1 * x1.toInt + (-1 * x2.toInt + 0))) = z := Option.some.inj (show some (1 * x3.toInt + (-1 * x1.toInt + (-1 * x2.toInt + 0))) = some z from e6)
    exact e7
  have l1 : 0 ≤ (-1 * x3.toInt + (1 * x1.toInt + (1 * x2.toInt + 0))) + 0 := by
    obtain ⟨z, e6, e7⟩ := m3 ([(3, -1), (1, 1), (2, 1)], 0) (List.mem_of_getElem? (i := 1) rfl)
    obtain rfl : (-1 * x3.toInt + (1 * x1.toInt + (1 * x2.toInt + 0))) = z := Option.some.inj (show some (-1 * x3.toInt + (1 * x1.toInt + (1 * x2.toInt + 0))) = some z from e6)
    exact e7
  have f0 : rB K n p 172 [rR x0, rI x1, rI x2] σ := by
    obtain ⟨w, e6, e7⟩ := m4 (2755, [0, 1, 2]) (List.mem_of_getElem? (i := 0) rfl)
    obtain rfl : [rR x0, rI x1, rI x2] = w := Option.some.inj (show some [rR x0, rI x1, rI x2] = some w from e6)
    exact (rF_b (r := 2755) (by decide) rfl).mp e7
  have f0 := ro_172.mp f0
  clear m1 m2 m3 m4
  have q0 : rB K n p 170 [rR x0, rI x3] σ := ro_170.mpr (by
    rw [show x3.toInt = x1.toInt + x2.toInt by omega]
    exact f0)
  exact ⟨p, fun _ => rfl, ⟨(fun q h => by cases h), fun q h => (by cases h), (fun f h => by cases h), (aAllc ⟨_, rfl, (rF_b (r := 2722) (by decide) rfl).mpr q0⟩ (fun f h => by cases h))⟩, [], List.mem_cons_self, fun f h => (by cases h)⟩
theorem rw_rvPGb {K : Nat → Nat} {n : Nat} {JX : (Nat → jcell) → Prop} : aGho (rF K n) fa_T K n JX ag_rvPGb := by
  refine aGho_of ⟨rfl, rfl⟩ ?_
  intro p σ ρ hH hX hA hM0
  have hG := aAG_of hA.1 (fun i e v he hv => (hA.2 i e v he hv).1)
  clear hA
  obtain ⟨v0, v1, v2, v3, rfl, g0, g1, g2, g3⟩ := rA_4 hG
  clear hG
  obtain ⟨x0, rfl, b0, d0⟩ := rG_ref (by decide) g0
  obtain ⟨x1, rfl, b1, d1⟩ := aG_int g1
  dsimp only at b1 d1
  obtain ⟨x2, rfl, b2, d2⟩ := aG_int g2
  dsimp only at b2 d2
  obtain ⟨x3, rfl, b3, d3⟩ := aG_int g3
  dsimp only at b3 d3
  obtain ⟨m1, m2, m3, m4⟩ := hM0
  obtain ⟨M, hM⟩ := rMe_ex hH b0 d0
  have l0 : 0 ≤ (1 * x3.toInt + (-1 * x1.toInt + (-1 * x2.toInt + 0))) + 0 := by
    obtain ⟨z, e6, e7⟩ := m3 ([(3, 1), (1, -1), (2, -1)], 0) (List.mem_of_getElem? (i := 0) rfl)
    obtain rfl : (1 * x3.toInt + (-1 * x1.toInt + (-1 * x2.toInt + 0))) = z := Option.some.inj (show some (1 * x3.toInt + (-1 * x1.toInt + (-1 * x2.toInt + 0))) = some z from e6)
    exact e7
  have l1 : 0 ≤ (-1 * x3.toInt + (1 * x1.toInt + (1 * x2.toInt + 0))) + 0 := by
    obtain ⟨z, e6, e7⟩ := m3 ([(3, -1), (1, 1), (2, 1)], 0) (List.mem_of_getElem? (i := 1) rfl)
    obtain rfl : (-1 * x3.toInt + (1 * x1.toInt + (1 * x2.toInt + 0))) = z := Option.some.inj (show some (-1 * x3.toInt + (1 * x1.toInt + (1 * x2.toInt + 0))) = some z from e6)
    exact e7
  have f0 : rB K n p 171 [rR x0, rI x3] σ := by
    obtain ⟨w, e6, e7⟩ := m4 (2738, [0, 3]) (List.mem_of_getElem? (i := 0) rfl)
    obtain rfl : [rR x0, rI x3] = w := Option.some.inj (show some [rR x0, rI x3] = some w from e6)
    exact (rF_b (r := 2738) (by decide) rfl).mp e7
  have f0 := ro_171.mp f0
  clear m1 m2 m3 m4
  have q0 : rB K n p 173 [rR x0, rI x1, rI x2] σ := ro_173.mpr (by
    rw [show x1.toInt + x2.toInt + 1 = x3.toInt + 1 by omega]
    exact f0)
  exact ⟨p, fun _ => rfl, ⟨(fun q h => by cases h), fun q h => (by cases h), (fun f h => by cases h), (aAllc ⟨_, rfl, (rF_b (r := 2771) (by decide) rfl).mpr q0⟩ (fun f h => by cases h))⟩, [], List.mem_cons_self, fun f h => (by cases h)⟩
theorem rw_rvPGc {K : Nat → Nat} {n : Nat} {JX : (Nat → jcell) → Prop} : aGho (rF K n) fa_T K n JX ag_rvPGc := by
  refine aGho_of ⟨rfl, rfl⟩ ?_
  intro p σ ρ hH hX hA hM0
  have hG := aAG_of hA.1 (fun i e v he hv => (hA.2 i e v he hv).1)
  clear hA
  obtain ⟨v0, v1, v2, v3, v4, rfl, g0, g1, g2, g3, g4⟩ := rA_5 hG
  clear hG
  obtain ⟨x0, rfl, b0, d0⟩ := rG_ref (by decide) g0
  obtain ⟨x1, rfl, b1, d1⟩ := aG_int g1
  dsimp only at b1 d1
  obtain ⟨x2, rfl, b2, d2⟩ := aG_int g2
  dsimp only at b2 d2
  obtain ⟨x3, rfl, b3, d3⟩ := aG_int g3
  dsimp only at b3 d3
  obtain ⟨x4, rfl, b4, d4⟩ := aG_int g4
  dsimp only at b4 d4
  obtain ⟨m1, m2, m3, m4⟩ := hM0
  obtain ⟨M, hM⟩ := rMe_ex hH b0 d0
  have l0 : 0 ≤ (1 * x3.toInt + (-1 * x2.toInt + 0)) + -1 := by
    obtain ⟨z, e6, e7⟩ := m3 ([(3, 1), (2, -1)], -1) (List.mem_of_getElem? (i := 0) rfl)
    obtain rfl : (1 * x3.toInt + (-1 * x2.toInt + 0)) = z := Option.some.inj (show some (1 * x3.toInt + (-1 * x2.toInt + 0)) = some z from e6)
    exact e7
  have l1 : 0 ≤ (-1 * x3.toInt + (1 * x2.toInt + 0)) + 1 := by
    obtain ⟨z, e6, e7⟩ := m3 ([(3, -1), (2, 1)], 1) (List.mem_of_getElem? (i := 1) rfl)
    obtain rfl : (-1 * x3.toInt + (1 * x2.toInt + 0)) = z := Option.some.inj (show some (-1 * x3.toInt + (1 * x2.toInt + 0)) = some z from e6)
    exact e7
  have f0 : rB K n p 173 [rR x0, rI x1, rI x2] σ := by
    obtain ⟨w, e6, e7⟩ := m4 (2771, [0, 1, 2]) (List.mem_of_getElem? (i := 0) rfl)
    obtain rfl : [rR x0, rI x1, rI x2] = w := Option.some.inj (show some [rR x0, rI x1, rI x2] = some w from e6)
    exact (rF_b (r := 2771) (by decide) rfl).mp e7
  have f0 := ro_173.mp f0
  clear m1 m2 m3 m4
  have q0 : rB K n (rSh rS1 p [rR x0, rI x4]) 172 [rR x0, rI x1, rI x3] σ := ro_172.mpr (by
    rw [show x1.toInt + x3.toInt = x1.toInt + x2.toInt + 1 by omega]
    exact f0)
  exact ⟨p, fun _ => rfl, ⟨(fun q h => by cases h), fun q h => (by cases h), (fun f h => by cases h), (aAllc ⟨_, rfl, (rF_g (r := 2755) (by decide)).mpr q0⟩ (fun f h => by cases h))⟩, [], List.mem_cons_self, fun f h => (by cases h)⟩
theorem rw_rvBE {K : Nat → Nat} {n : Nat} {JX : (Nat → jcell) → Prop} : aGho (rF K n) fa_T K n JX ag_rvBE := by
  refine aGho_of ⟨rfl, rfl⟩ ?_
  intro p σ ρ hH hX hA hM0
  have hG := aAG_of hA.1 (fun i e v he hv => (hA.2 i e v he hv).1)
  clear hA
  obtain ⟨v0, v1, rfl, g0, g1⟩ := rA_2 hG
  clear hG
  obtain ⟨x0, rfl, b0, d0⟩ := rG_ref (by decide) g0
  obtain ⟨x1, rfl, b1, d1⟩ := aG_int g1
  dsimp only at b1 d1
  obtain ⟨m1, m2, m3, m4⟩ := hM0
  obtain ⟨M, hM⟩ := rMe_ex hH b0 d0
  have f0 : rB K n p 25 [rI x1] σ := by
    obtain ⟨w, e6, e7⟩ := m4 (401, [1]) (List.mem_of_getElem? (i := 0) rfl)
    obtain rfl : [rI x1] = w := Option.some.inj (show some [rI x1] = some w from e6)
    exact (rF_b (r := 401) (by decide) rfl).mp e7
  have f0 := ro_25.mp f0
  have f1 : rB K n (rSh rS1 p [rR x0, rI x1]) 24 [] σ := by
    obtain ⟨w, e6, e7⟩ := m4 (384, [0, 1]) (List.mem_of_getElem? (i := 1) rfl)
    obtain rfl : [rR x0, rI x1] = w := Option.some.inj (show some [rR x0, rI x1] = some w from e6)
    exact (rF_g (r := 384) (by decide)).mp e7
  have f1 := ro_24.mp f1
  clear m1 m2 m3 m4
  have q0 : rB K n p 93 [rI x1] σ := ro_93.mpr (by
    refine ⟨f0, ?_⟩
    rw [Int32.ofInt_toInt, rSh_any (b := x0)]
    exact f1)
  exact ⟨p, fun _ => rfl, ⟨(fun q h => by cases h), fun q h => (by cases h), (fun f h => by cases h), (aAllc ⟨_, rfl, (rF_b (r := 1489) (by decide) rfl).mpr q0⟩ (fun f h => by cases h))⟩, [], List.mem_cons_self, fun f h => (by cases h)⟩
theorem rw_rvBO {K : Nat → Nat} {n : Nat} {JX : (Nat → jcell) → Prop} : aGho (rF K n) fa_T K n JX ag_rvBO := by
  refine aGho_of ⟨rfl, rfl⟩ ?_
  intro p σ ρ hH hX hA hM0
  have hG := aAG_of hA.1 (fun i e v he hv => (hA.2 i e v he hv).1)
  clear hA
  obtain ⟨v0, v1, rfl, g0, g1⟩ := rA_2 hG
  clear hG
  obtain ⟨x0, rfl, b0, d0⟩ := rG_ref (by decide) g0
  obtain ⟨x1, rfl, b1, d1⟩ := aG_int g1
  dsimp only at b1 d1
  obtain ⟨m1, m2, m3, m4⟩ := hM0
  obtain ⟨M, hM⟩ := rMe_ex hH b0 d0
  have f0 : rB K n p 93 [rI x1] σ := by
    obtain ⟨w, e6, e7⟩ := m4 (1489, [1]) (List.mem_of_getElem? (i := 0) rfl)
    obtain rfl : [rI x1] = w := Option.some.inj (show some [rI x1] = some w from e6)
    exact (rF_b (r := 1489) (by decide) rfl).mp e7
  have f0 := ro_93.mp f0
  clear m1 m2 m3 m4
  have q0 : rB K n p 25 [rI x1] σ := ro_25.mpr (by
    exact f0.1)
  have q1 : rB K n (rSh rS1 p [rR x0, rI x1]) 24 [] σ := ro_24.mpr (by
    have h := f0.2
    rw [Int32.ofInt_toInt, rSh_any (b := x0)] at h
    exact h)
  exact ⟨p, fun _ => rfl, ⟨(fun q h => by cases h), fun q h => (by cases h), (fun f h => by cases h), (aAllc ⟨_, rfl, (rF_b (r := 401) (by decide) rfl).mpr q0⟩ (aAllc ⟨_, rfl, (rF_g (r := 384) (by decide)).mpr q1⟩ (fun f h => by cases h)))⟩, [], List.mem_cons_self, fun f h => (by cases h)⟩
end
section
/-! the reference: rules of g5, g6, g7 -/
theorem rLn_1 {a : Nat} {p : rP} {g : Nat → Int32} {x0 : Int32}  (l0 : rLm p.1 x0.toInt) (d0 : rGd (rSh rS1 p [rR a, rI x0]).1) : rLm p.1 x0.toInt ∧ rGd (rSh rS1 p [rR a, rI x0]).1 ∧ rLn a (rSh rS1 p [rR a, rI x0]) g (0 + 1) 0 := by
  refine ⟨l0, d0, ?_⟩
  exact trivial
theorem rLn_2 {a : Nat} {p : rP} {g : Nat → Int32} {x0 x1 : Int32} (e1 : g 1 = x1) (l0 : rLm p.1 x0.toInt) (d0 : rGd (rSh rS1 p [rR a, rI x0]).1) (l1 : rLm (rSh rS1 p [rR a, rI x0]).1 x1.toInt) (d1 : rGd (rSh rS1 p [rR a, rI x1, rR a, rI x0]).1) : rLm p.1 x0.toInt ∧ rGd (rSh rS1 p [rR a, rI x0]).1 ∧ rLn a (rSh rS1 p [rR a, rI x0]) g (0 + 1) 1 := by
  refine ⟨l0, d0, ?_⟩
  refine ⟨by rw [show g 1 = x1 from e1]; exact l1, by rw [show g 1 = x1 from e1]; exact d1, ?_⟩
  rw [show g 1 = x1 from e1]
  exact trivial
theorem rLn_3 {a : Nat} {p : rP} {g : Nat → Int32} {x0 x1 x2 : Int32} (e1 : g 1 = x1) (e2 : g 2 = x2) (l0 : rLm p.1 x0.toInt) (d0 : rGd (rSh rS1 p [rR a, rI x0]).1) (l1 : rLm (rSh rS1 p [rR a, rI x0]).1 x1.toInt) (d1 : rGd (rSh rS1 p [rR a, rI x1, rR a, rI x0]).1) (l2 : rLm (rSh rS1 p [rR a, rI x1, rR a, rI x0]).1 x2.toInt) (d2 : rGd (rSh rS1 p [rR a, rI x2, rR a, rI x1, rR a, rI x0]).1) : rLm p.1 x0.toInt ∧ rGd (rSh rS1 p [rR a, rI x0]).1 ∧ rLn a (rSh rS1 p [rR a, rI x0]) g (0 + 1) 2 := by
  refine ⟨l0, d0, ?_⟩
  refine ⟨by rw [show g 1 = x1 from e1]; exact l1, by rw [show g 1 = x1 from e1]; exact d1, ?_⟩
  rw [show g 1 = x1 from e1]
  refine ⟨by rw [show g 2 = x2 from e2]; exact l2, by rw [show g 2 = x2 from e2]; exact d2, ?_⟩
  rw [show g 2 = x2 from e2]
  exact trivial
theorem rLn_4 {a : Nat} {p : rP} {g : Nat → Int32} {x0 x1 x2 x3 : Int32} (e1 : g 1 = x1) (e2 : g 2 = x2) (e3 : g 3 = x3) (l0 : rLm p.1 x0.toInt) (d0 : rGd (rSh rS1 p [rR a, rI x0]).1) (l1 : rLm (rSh rS1 p [rR a, rI x0]).1 x1.toInt) (d1 : rGd (rSh rS1 p [rR a, rI x1, rR a, rI x0]).1) (l2 : rLm (rSh rS1 p [rR a, rI x1, rR a, rI x0]).1 x2.toInt) (d2 : rGd (rSh rS1 p [rR a, rI x2, rR a, rI x1, rR a, rI x0]).1) (l3 : rLm (rSh rS1 p [rR a, rI x2, rR a, rI x1, rR a, rI x0]).1 x3.toInt) (d3 : rGd (rSh rS1 p [rR a, rI x3, rR a, rI x2, rR a, rI x1, rR a, rI x0]).1) : rLm p.1 x0.toInt ∧ rGd (rSh rS1 p [rR a, rI x0]).1 ∧ rLn a (rSh rS1 p [rR a, rI x0]) g (0 + 1) 3 := by
  refine ⟨l0, d0, ?_⟩
  refine ⟨by rw [show g 1 = x1 from e1]; exact l1, by rw [show g 1 = x1 from e1]; exact d1, ?_⟩
  rw [show g 1 = x1 from e1]
  refine ⟨by rw [show g 2 = x2 from e2]; exact l2, by rw [show g 2 = x2 from e2]; exact d2, ?_⟩
  rw [show g 2 = x2 from e2]
  refine ⟨by rw [show g 3 = x3 from e3]; exact l3, by rw [show g 3 = x3 from e3]; exact d3, ?_⟩
  rw [show g 3 = x3 from e3]
  exact trivial
theorem rOb_i {K : Nat → Nat} {n : Nat} {σ : Nat → jcell} (hH : aH fa_T K n σ) {a k f c : Nat} {ts : List aT} {iv : Int × Int} (ha : a < n) (hk : K a = k) (t1 : fa_T[k]? = some (.inr (c, ts))) (t2 : ts[f]? = some (.inl iv)) : ∃ v, rOb K n σ a k f (rI v) := by
  have h1 := hH a ha _ (by rw [hk]; exact t1)
  match e : σ a, h1 with
  | .inr (c', fs), h1 =>
    obtain ⟨-, hl, h2⟩ := h1
    have hf : f < fs.length := by rw [hl]; exact (List.getElem?_eq_some_iff.mp t2).1
    obtain ⟨v, e2, -⟩ := aG_int (h2 f _ _ t2 (List.getElem?_eq_getElem hf))
    exact ⟨v, ha, hk, c', fs, e, by rw [List.getElem?_eq_getElem hf, e2]⟩
  | .inl x, h1 => exact h1.elim
theorem rw_rvUCa0 {K : Nat → Nat} {n : Nat} {JX : (Nat → jcell) → Prop} : aGho (rF K n) fa_T K n JX ag_rvUCa0 := by
  refine aGho_of ⟨rfl, rfl⟩ ?_
  intro p σ ρ hH hX hA hM0
  have hG := aAG_of hA.1 (fun i e v he hv => (hA.2 i e v he hv).1)
  clear hA
  obtain ⟨v0, v1, v2, rfl, g0, g1, g2⟩ := rA_3 hG
  clear hG
  obtain ⟨x0, rfl, b0, d0⟩ := rG_ref (by decide) g0
  obtain ⟨x1, rfl, b1, d1⟩ := aG_int g1
  dsimp only at b1 d1
  obtain ⟨x2, rfl, b2, d2⟩ := aG_int g2
  dsimp only at b2 d2
  obtain ⟨m1, m2, m3, m4⟩ := hM0
  obtain ⟨M, hM⟩ := rMe_ex hH b0 d0
  have f0 : rB K n p 28 [rR x0, rI x1, rI x2] σ := by
    obtain ⟨w, e6, e7⟩ := m4 (451, [0, 1, 2]) (List.mem_of_getElem? (i := 0) rfl)
    obtain rfl : [rR x0, rI x1, rI x2] = w := Option.some.inj (show some [rR x0, rI x1, rI x2] = some w from e6)
    exact (rF_b (r := 451) (by decide) rfl).mp e7
  have f0 := ro_28.mp f0
  clear m1 m2 m3 m4
  have q0 : rB K n p 23 [rR x0, rI x2] σ := ro_23.mpr (by
    have h := f0
    rw [show x1.toInt = 0 by omega] at h
    exact h)
  exact ⟨p, fun _ => rfl, ⟨(fun q h => by cases h), fun q h => (by cases h), (fun f h => by cases h), (aAllc ⟨_, rfl, (rF_b (r := 370) (by decide) rfl).mpr q0⟩ (fun f h => by cases h))⟩, [], List.mem_cons_self, fun f h => (by cases h)⟩
theorem rw_rvUCb0 {K : Nat → Nat} {n : Nat} {JX : (Nat → jcell) → Prop} : aGho (rF K n) fa_T K n JX ag_rvUCb0 := by
  refine aGho_of ⟨rfl, rfl⟩ ?_
  intro p σ ρ hH hX hA hM0
  have hG := aAG_of hA.1 (fun i e v he hv => (hA.2 i e v he hv).1)
  clear hA
  obtain ⟨v0, v1, v2, rfl, g0, g1, g2⟩ := rA_3 hG
  clear hG
  obtain ⟨x0, rfl, b0, d0⟩ := rG_ref (by decide) g0
  obtain ⟨x1, rfl, b1, d1⟩ := aG_int g1
  dsimp only at b1 d1
  obtain ⟨x2, rfl, b2, d2⟩ := aG_int g2
  dsimp only at b2 d2
  obtain ⟨m1, m2, m3, m4⟩ := hM0
  obtain ⟨M, hM⟩ := rMe_ex hH b0 d0
  have f0 : rB K n p 23 [rR x0, rI x2] σ := by
    obtain ⟨w, e6, e7⟩ := m4 (370, [0, 2]) (List.mem_of_getElem? (i := 0) rfl)
    obtain rfl : [rR x0, rI x2] = w := Option.some.inj (show some [rR x0, rI x2] = some w from e6)
    exact (rF_b (r := 370) (by decide) rfl).mp e7
  have f0 := ro_23.mp f0
  clear m1 m2 m3 m4
  have q0 : rB K n p 28 [rR x0, rI x1, rI x2] σ := ro_28.mpr (by
    rw [show x1.toInt = 0 by omega]
    exact f0)
  exact ⟨p, fun _ => rfl, ⟨(fun q h => by cases h), fun q h => (by cases h), (fun f h => by cases h), (aAllc ⟨_, rfl, (rF_b (r := 451) (by decide) rfl).mpr q0⟩ (fun f h => by cases h))⟩, [], List.mem_cons_self, fun f h => (by cases h)⟩
theorem rw_rvUCa1 {K : Nat → Nat} {n : Nat} {JX : (Nat → jcell) → Prop} : aGho (rF K n) fa_T K n JX ag_rvUCa1 := by
  refine aGho_of ⟨rfl, rfl⟩ ?_
  intro p σ ρ hH hX hA hM0
  have hG := aAG_of hA.1 (fun i e v he hv => (hA.2 i e v he hv).1)
  clear hA
  obtain ⟨v0, v1, v2, rfl, g0, g1, g2⟩ := rA_3 hG
  clear hG
  obtain ⟨x0, rfl, b0, d0⟩ := rG_ref (by decide) g0
  obtain ⟨x1, rfl, b1, d1⟩ := aG_int g1
  dsimp only at b1 d1
  obtain ⟨x2, rfl, b2, d2⟩ := aG_int g2
  dsimp only at b2 d2
  obtain ⟨m1, m2, m3, m4⟩ := hM0
  obtain ⟨M, hM⟩ := rMe_ex hH b0 d0
  have f0 : rB K n p 28 [rR x0, rI x1, rI x2] σ := by
    obtain ⟨w, e6, e7⟩ := m4 (451, [0, 1, 2]) (List.mem_of_getElem? (i := 0) rfl)
    obtain rfl : [rR x0, rI x1, rI x2] = w := Option.some.inj (show some [rR x0, rI x1, rI x2] = some w from e6)
    exact (rF_b (r := 451) (by decide) rfl).mp e7
  have f0 := ro_28.mp f0
  clear m1 m2 m3 m4
  have q0 : rB K n p 26 [rR x0, rI x2] σ := ro_26.mpr (by
    have h := f0
    rw [show x1.toInt = 1 by omega] at h
    exact h)
  exact ⟨p, fun _ => rfl, ⟨(fun q h => by cases h), fun q h => (by cases h), (fun f h => by cases h), (aAllc ⟨_, rfl, (rF_b (r := 418) (by decide) rfl).mpr q0⟩ (fun f h => by cases h))⟩, [], List.mem_cons_self, fun f h => (by cases h)⟩
theorem rw_rvUCa2 {K : Nat → Nat} {n : Nat} {JX : (Nat → jcell) → Prop} : aGho (rF K n) fa_T K n JX ag_rvUCa2 := by
  refine aGho_of ⟨rfl, rfl⟩ ?_
  intro p σ ρ hH hX hA hM0
  have hG := aAG_of hA.1 (fun i e v he hv => (hA.2 i e v he hv).1)
  clear hA
  obtain ⟨v0, v1, v2, rfl, g0, g1, g2⟩ := rA_3 hG
  clear hG
  obtain ⟨x0, rfl, b0, d0⟩ := rG_ref (by decide) g0
  obtain ⟨x1, rfl, b1, d1⟩ := aG_int g1
  dsimp only at b1 d1
  obtain ⟨x2, rfl, b2, d2⟩ := aG_int g2
  dsimp only at b2 d2
  obtain ⟨m1, m2, m3, m4⟩ := hM0
  obtain ⟨M, hM⟩ := rMe_ex hH b0 d0
  have f0 : rB K n p 28 [rR x0, rI x1, rI x2] σ := by
    obtain ⟨w, e6, e7⟩ := m4 (451, [0, 1, 2]) (List.mem_of_getElem? (i := 0) rfl)
    obtain rfl : [rR x0, rI x1, rI x2] = w := Option.some.inj (show some [rR x0, rI x1, rI x2] = some w from e6)
    exact (rF_b (r := 451) (by decide) rfl).mp e7
  have f0 := ro_28.mp f0
  clear m1 m2 m3 m4
  have q0 : rB K n p 27 [rR x0, rI x2] σ := ro_27.mpr (by
    have h := f0
    rw [show x1.toInt = 2 by omega] at h
    exact h)
  exact ⟨p, fun _ => rfl, ⟨(fun q h => by cases h), fun q h => (by cases h), (fun f h => by cases h), (aAllc ⟨_, rfl, (rF_b (r := 434) (by decide) rfl).mpr q0⟩ (fun f h => by cases h))⟩, [], List.mem_cons_self, fun f h => (by cases h)⟩
theorem rw_rvUCa3 {K : Nat → Nat} {n : Nat} {JX : (Nat → jcell) → Prop} : aGho (rF K n) fa_T K n JX ag_rvUCa3 := by
  refine aGho_of ⟨rfl, rfl⟩ ?_
  intro p σ ρ hH hX hA hM0
  have hG := aAG_of hA.1 (fun i e v he hv => (hA.2 i e v he hv).1)
  clear hA
  obtain ⟨v0, v1, v2, rfl, g0, g1, g2⟩ := rA_3 hG
  clear hG
  obtain ⟨x0, rfl, b0, d0⟩ := rG_ref (by decide) g0
  obtain ⟨x1, rfl, b1, d1⟩ := aG_int g1
  dsimp only at b1 d1
  obtain ⟨x2, rfl, b2, d2⟩ := aG_int g2
  dsimp only at b2 d2
  obtain ⟨m1, m2, m3, m4⟩ := hM0
  obtain ⟨M, hM⟩ := rMe_ex hH b0 d0
  have f0 : rB K n p 28 [rR x0, rI x1, rI x2] σ := by
    obtain ⟨w, e6, e7⟩ := m4 (451, [0, 1, 2]) (List.mem_of_getElem? (i := 0) rfl)
    obtain rfl : [rR x0, rI x1, rI x2] = w := Option.some.inj (show some [rR x0, rI x1, rI x2] = some w from e6)
    exact (rF_b (r := 451) (by decide) rfl).mp e7
  have f0 := ro_28.mp f0
  clear m1 m2 m3 m4
  have q0 : rB K n p 48 [rR x0, rI x2] σ := ro_48.mpr (by
    have h := f0
    rw [show x1.toInt = 3 by omega] at h
    exact h)
  exact ⟨p, fun _ => rfl, ⟨(fun q h => by cases h), fun q h => (by cases h), (fun f h => by cases h), (aAllc ⟨_, rfl, (rF_b (r := 770) (by decide) rfl).mpr q0⟩ (fun f h => by cases h))⟩, [], List.mem_cons_self, fun f h => (by cases h)⟩
theorem rw_rvSE1 {K : Nat → Nat} {n : Nat} {JX : (Nat → jcell) → Prop} : aGho (rF K n) fa_T K n JX ag_rvSE1 := by
  refine aGho_of ⟨rfl, rfl⟩ ?_
  intro p σ ρ hH hX hA hM0
  have hG := aAG_of hA.1 (fun i e v he hv => (hA.2 i e v he hv).1)
  clear hA
  obtain ⟨v0, v1, v2, rfl, g0, g1, g2⟩ := rA_3 hG
  clear hG
  obtain ⟨x0, rfl, b0, d0⟩ := rG_ref (by decide) g0
  obtain ⟨x1, rfl, b1, d1⟩ := aG_int g1
  dsimp only at b1 d1
  obtain ⟨x2, rfl, b2, d2⟩ := aG_int g2
  dsimp only at b2 d2
  obtain ⟨m1, m2, m3, m4⟩ := hM0
  obtain ⟨M, hM⟩ := rMe_ex hH b0 d0
  clear m1 m2 m3 m4
  have q0 : rB K n p 181 [rR x0, rI x1, rI x2] σ := ro_181.mpr (by
    intro h
    omega)
  exact ⟨p, fun _ => rfl, ⟨(fun q h => by cases h), fun q h => (by cases h), (fun f h => by cases h), (aAllc ⟨_, rfl, (rF_b (r := 2899) (by decide) rfl).mpr q0⟩ (fun f h => by cases h))⟩, [], List.mem_cons_self, fun f h => (by cases h)⟩
theorem rw_rvSE0 {K : Nat → Nat} {n : Nat} {JX : (Nat → jcell) → Prop} : aGho (rF K n) fa_T K n JX ag_rvSE0 := by
  refine aGho_of ⟨rfl, rfl⟩ ?_
  intro p σ ρ hH hX hA hM0
  have hG := aAG_of hA.1 (fun i e v he hv => (hA.2 i e v he hv).1)
  clear hA
  obtain ⟨v0, v1, v2, v3, v4, rfl, g0, g1, g2, g3, g4⟩ := rA_5 hG
  clear hG
  obtain ⟨x0, rfl, b0, d0⟩ := rG_ref (by decide) g0
  obtain ⟨x1, rfl, b1, d1⟩ := aG_int g1
  dsimp only at b1 d1
  obtain ⟨x2, rfl, b2, d2⟩ := aG_int g2
  dsimp only at b2 d2
  obtain ⟨x3, rfl, b3, d3⟩ := aG_int g3
  dsimp only at b3 d3
  obtain ⟨x4, rfl, b4, d4⟩ := rG_ref (by decide) g4
  obtain ⟨m1, m2, m3, m4⟩ := hM0
  obtain ⟨M, hM⟩ := rMe_ex hH b0 d0
  obtain ⟨a0, c0, fs0, w0, e1, s0, t0, e4⟩ := m1 (0, 22, 4) (List.mem_of_getElem? (i := 0) rfl)
  obtain rfl : x0 = a0 := Sum.inl.inj (Option.some.inj (Sum.inr.inj (Sum.inr.inj (Option.some.inj (show some (rR x0) = some _ from e1)))))
  obtain rfl : rR x4 = w0 := Option.some.inj (show some (rR x4) = some w0 from e4)
  clear e1 e4
  obtain ⟨a, mc0, ty0, gc0, ic0, e1, sc0, jc0, e4, e5⟩ := m2 (4, ([(1, 1)], 0), 3) (List.mem_of_getElem? (i := 0) rfl)
  obtain rfl : x4 = a := Sum.inl.inj (Option.some.inj (Sum.inr.inj (Sum.inr.inj (Option.some.inj (show some (rR x4) = some _ from e1)))))
  obtain ⟨gc0, rfl⟩ : ∃ g, gc0 = .inl g := by
    rcases gc0 with g | g
    · exact ⟨g, rfl⟩
    · exact absurd (show some (rI x3) = some (.inr (.inl (g ic0))) from e5) (fun h => by cases h)
  have sc0 : σ x4 = .inl (ty0, mc0, .inl gc0) := sc0
  have ec0 : x3 = gc0 ic0 := Sum.inl.inj (Option.some.inj (show some (rI x3) = some _ from e5))
  have kc0 : (ic0 : Int) = (1 * x1.toInt + 0) + 0 := by
    obtain ⟨z, e6, e7⟩ := e4
    obtain rfl : (1 * x1.toInt + 0) = z := Option.some.inj (show some (1 * x1.toInt + 0) = some z from e6)
    exact e7
  clear e1 e4 e5
  clear m1 m2 m3 m4
  have q0 : rB K n p 181 [rR x0, rI x1, rI x2] σ := ro_181.mpr (by
    intro _
    obtain ⟨g, h⟩ := rRo_of (k := 88) (f := 22) hH b0 d0 s0 t0 b4 d4 rfl
    have e1 := rRo_c (i := ic0) h s0 t0 sc0 ec0
    rw [show ic0 = x1.toInt.toNat by omega] at e1
    exact ⟨x3.toInt, by omega, by omega, g, h, e1⟩)
  exact ⟨p, fun _ => rfl, ⟨(fun q h => by cases h), fun q h => (by cases h), (fun f h => by cases h), (aAllc ⟨_, rfl, (rF_b (r := 2899) (by decide) rfl).mpr q0⟩ (fun f h => by cases h))⟩, [], List.mem_cons_self, fun f h => (by cases h)⟩
theorem rw_rvSEn {K : Nat → Nat} {n : Nat} {JX : (Nat → jcell) → Prop} : aGho (rF K n) fa_T K n JX ag_rvSEn := by
  refine aGho_of ⟨rfl, rfl⟩ ?_
  intro p σ ρ hH hX hA hM0
  have hG := aAG_of hA.1 (fun i e v he hv => (hA.2 i e v he hv).1)
  clear hA
  obtain ⟨v0, v1, v2, rfl, g0, g1, g2⟩ := rA_3 hG
  clear hG
  obtain ⟨x0, rfl, b0, d0⟩ := rG_ref (by decide) g0
  obtain ⟨x1, rfl, b1, d1⟩ := aG_int g1
  dsimp only at b1 d1
  obtain ⟨x2, rfl, b2, d2⟩ := aG_int g2
  dsimp only at b2 d2
  obtain ⟨m1, m2, m3, m4⟩ := hM0
  obtain ⟨M, hM⟩ := rMe_ex hH b0 d0
  have f0 : rB K n p 181 [rR x0, rI x1, rI x2] σ := by
    obtain ⟨w, e6, e7⟩ := m4 (2899, [0, 1, 2]) (List.mem_of_getElem? (i := 0) rfl)
    obtain rfl : [rR x0, rI x1, rI x2] = w := Option.some.inj (show some [rR x0, rI x1, rI x2] = some w from e6)
    exact (rF_b (r := 2899) (by decide) rfl).mp e7
  have f0 := ro_181.mp f0
  clear m1 m2 m3 m4
  have q0 : rB K n p 179 [rR x0, rI x1] σ := ro_179.mpr (by
    exact f0 (by omega))
  exact ⟨p, fun _ => rfl, ⟨(fun q h => by cases h), fun q h => (by cases h), (fun f h => by cases h), (aAllc ⟨_, rfl, (rF_b (r := 2866) (by decide) rfl).mpr q0⟩ (fun f h => by cases h))⟩, [], List.mem_cons_self, fun f h => (by cases h)⟩
theorem rw_rvPGz {K : Nat → Nat} {n : Nat} {JX : (Nat → jcell) → Prop} : aGho (rF K n) fa_T K n JX ag_rvPGz := by
  refine aGho_of ⟨rfl, rfl⟩ ?_
  intro p σ ρ hH hX hA hM0
  have hG := aAG_of hA.1 (fun i e v he hv => (hA.2 i e v he hv).1)
  clear hA
  obtain ⟨v0, v1, v2, rfl, g0, g1, g2⟩ := rA_3 hG
  clear hG
  obtain ⟨x0, rfl, b0, d0⟩ := rG_ref (by decide) g0
  obtain ⟨x1, rfl, b1, d1⟩ := aG_int g1
  dsimp only at b1 d1
  obtain ⟨x2, rfl, b2, d2⟩ := aG_int g2
  dsimp only at b2 d2
  obtain ⟨m1, m2, m3, m4⟩ := hM0
  obtain ⟨M, hM⟩ := rMe_ex hH b0 d0
  have f0 : rB K n p 171 [rR x0, rI x1] σ := by
    obtain ⟨w, e6, e7⟩ := m4 (2738, [0, 1]) (List.mem_of_getElem? (i := 0) rfl)
    obtain rfl : [rR x0, rI x1] = w := Option.some.inj (show some [rR x0, rI x1] = some w from e6)
    exact (rF_b (r := 2738) (by decide) rfl).mp e7
  have f0 := ro_171.mp f0
  clear m1 m2 m3 m4
  have q0 : rB K n p 173 [rR x0, rI x1, rI x2] σ := ro_173.mpr (by
    rw [show x1.toInt + x2.toInt + 1 = x1.toInt + 1 by omega]
    exact f0)
  exact ⟨p, fun _ => rfl, ⟨(fun q h => by cases h), fun q h => (by cases h), (fun f h => by cases h), (aAllc ⟨_, rfl, (rF_b (r := 2771) (by decide) rfl).mpr q0⟩ (fun f h => by cases h))⟩, [], List.mem_cons_self, fun f h => (by cases h)⟩
theorem rw_rvBFo {K : Nat → Nat} {n : Nat} {JX : (Nat → jcell) → Prop} : aGho (rF K n) fa_T K n JX ag_rvBFo := by
  refine aGho_of ⟨rfl, rfl⟩ ?_
  intro p σ ρ hH hX hA hM0
  have hG := aAG_of hA.1 (fun i e v he hv => (hA.2 i e v he hv).1)
  clear hA
  obtain ⟨v0, v1, rfl, g0, g1⟩ := rA_2 hG
  clear hG
  obtain ⟨x0, rfl, b0, d0⟩ := rG_ref (by decide) g0
  obtain ⟨x1, rfl, b1, d1⟩ := aG_int g1
  dsimp only at b1 d1
  obtain ⟨m1, m2, m3, m4⟩ := hM0
  obtain ⟨M, hM⟩ := rMe_ex hH b0 d0
  obtain ⟨a0, c0, fs0, w0, e1, s0, t0, e4⟩ := m1 (0, 25, 1) (List.mem_of_getElem? (i := 0) rfl)
  obtain rfl : x0 = a0 := Sum.inl.inj (Option.some.inj (Sum.inr.inj (Sum.inr.inj (Option.some.inj (show some (rR x0) = some _ from e1)))))
  obtain rfl : rI x1 = w0 := Option.some.inj (show some (rI x1) = some w0 from e4)
  clear e1 e4
  have f0 : rB K n p 94 [rR x0] σ := by
    obtain ⟨w, e6, e7⟩ := m4 (1505, [0]) (List.mem_of_getElem? (i := 0) rfl)
    obtain rfl : [rR x0] = w := Option.some.inj (show some [rR x0] = some w from e6)
    exact (rF_b (r := 1505) (by decide) rfl).mp e7
  have f0 := ro_94.mp f0
  clear m1 m2 m3 m4
  have q0 : rB K n p 93 [rI x1] σ := ro_93.mpr (by
    obtain ⟨v, o, h1, h2⟩ := f0
    have e := rOb_u o ⟨b0, d0, _, _, s0, t0⟩
    cases e
    exact ⟨h1, h2⟩)
  exact ⟨p, fun _ => rfl, ⟨(fun q h => by cases h), fun q h => (by cases h), (fun f h => by cases h), (aAllc ⟨_, rfl, (rF_b (r := 1489) (by decide) rfl).mpr q0⟩ (fun f h => by cases h))⟩, [], List.mem_cons_self, fun f h => (by cases h)⟩
theorem rw_rvCLp {K : Nat → Nat} {n : Nat} {JX : (Nat → jcell) → Prop} : aGho (rF K n) fa_T K n JX ag_rvCLp := by
  refine aGho_of ⟨rfl, rfl⟩ ?_
  intro p σ ρ hH hX hA hM0
  have hG := aAG_of hA.1 (fun i e v he hv => (hA.2 i e v he hv).1)
  clear hA
  obtain ⟨v0, v1, v2, v3, rfl, g0, g1, g2, g3⟩ := rA_4 hG
  clear hG
  obtain ⟨x0, rfl, b0, d0⟩ := rG_ref (by decide) g0
  obtain ⟨x1, rfl, b1, d1⟩ := rG_ref (by decide) g1
  obtain ⟨x2, rfl, b2, d2⟩ := aG_int g2
  dsimp only at b2 d2
  obtain ⟨x3, rfl, b3, d3⟩ := aG_int g3
  dsimp only at b3 d3
  obtain ⟨m1, m2, m3, m4⟩ := hM0
  obtain ⟨M, hM⟩ := rMe_ex hH b0 d0
  obtain ⟨a0, c0, fs0, w0, e1, s0, t0, e4⟩ := m1 (0, 22, 1) (List.mem_of_getElem? (i := 0) rfl)
  obtain rfl : x0 = a0 := Sum.inl.inj (Option.some.inj (Sum.inr.inj (Sum.inr.inj (Option.some.inj (show some (rR x0) = some _ from e1)))))
  obtain rfl : rR x1 = w0 := Option.some.inj (show some (rR x1) = some w0 from e4)
  clear e1 e4
  have f0 : rB K n p 76 [rR x0, rI x2, rI x3] σ := by
    obtain ⟨w, e6, e7⟩ := m4 (1219, [0, 2, 3]) (List.mem_of_getElem? (i := 0) rfl)
    obtain rfl : [rR x0, rI x2, rI x3] = w := Option.some.inj (show some [rR x0, rI x2, rI x3] = some w from e6)
    exact (rF_b (r := 1219) (by decide) rfl).mp e7
  have f0 := ro_76.mp f0
  clear m1 m2 m3 m4
  have q0 : rB K n p 91 [rR x0, rI x2] (jup σ x1 (jsto (σ x1) x2.toNatClampNeg x3)) := ro_91.mpr (by
    obtain ⟨hp, h1, g, h2, h3⟩ := f0
    obtain ⟨gc, h4⟩ := rRo_of (k := 88) (f := 22) hH b0 d0 s0 t0 b1 d1 rfl
    refine ⟨hp, x3.toInt, h1, ⟨by omega, _, rRo_up h4 s0 t0, ?_⟩, g, rRo_o h2 (by rw [d1]; decide) (by rw [d1]; decide), h3⟩
    unfold upd
    rw [if_pos (show x2.toInt.toNat = x2.toNatClampNeg from rfl)])
  exact ⟨p, fun _ => rfl, ⟨(fun q h => by cases h), fun q h => (by cases h), (fun f h => by cases h), (aAllc ⟨_, rfl, rF_p (r := 1458) (by decide) (by decide) q0⟩ (fun f h => by cases h))⟩, [], List.mem_cons_self, fun f h => (by cases h)⟩
theorem rw_rvRCa0 {K : Nat → Nat} {n : Nat} {JX : (Nat → jcell) → Prop} : aGho (rF K n) fa_T K n JX ag_rvRCa0 := by
  refine aGho_of ⟨rfl, rfl⟩ ?_
  intro p σ ρ hH hX hA hM0
  have hG := aAG_of hA.1 (fun i e v he hv => (hA.2 i e v he hv).1)
  clear hA
  obtain ⟨v0, v1, v2, rfl, g0, g1, g2⟩ := rA_3 hG
  clear hG
  obtain ⟨x0, rfl, b0, d0⟩ := rG_ref (by decide) g0
  obtain ⟨x1, rfl, b1, d1⟩ := aG_int g1
  dsimp only at b1 d1
  obtain ⟨x2, rfl, b2, d2⟩ := aG_int g2
  dsimp only at b2 d2
  obtain ⟨m1, m2, m3, m4⟩ := hM0
  obtain ⟨a, mc0, ty0, gc0, ic0, e1, sc0, jc0, e4, e5⟩ := m2 (0, ([], 0), 2) (List.mem_of_getElem? (i := 0) rfl)
  obtain rfl : x0 = a := Sum.inl.inj (Option.some.inj (Sum.inr.inj (Sum.inr.inj (Option.some.inj (show some (rR x0) = some _ from e1)))))
  obtain ⟨gc0, rfl⟩ : ∃ g, gc0 = .inl g := by
    rcases gc0 with g | g
    · exact ⟨g, rfl⟩
    · exact absurd (show some (rI x2) = some (.inr (.inl (g ic0))) from e5) (fun h => by cases h)
  have sc0 : σ x0 = .inl (ty0, mc0, .inl gc0) := sc0
  have ec0 : x2 = gc0 ic0 := Sum.inl.inj (Option.some.inj (show some (rI x2) = some _ from e5))
  have kc0 : (ic0 : Int) = 0 + 0 := by
    obtain ⟨z, e6, e7⟩ := e4
    obtain rfl : 0 = z := Option.some.inj (show some 0 = some z from e6)
    exact e7
  clear e1 e4 e5
  clear m1 m2 m3 m4
  have q0 : rB K n p 184 [rR x0, rI x2] σ := ro_184.mpr (by
    obtain ⟨g, h⟩ := rRw_of hH b0 d0 rfl
    have e := rRw_c (i := ic0) h sc0 ec0
    rw [show ic0 = 0 by omega] at e
    exact ⟨g, h, by rw [e]⟩)
  exact ⟨p, fun _ => rfl, ⟨(fun q h => by cases h), fun q h => (by cases h), (fun f h => by cases h), (aAllc ⟨_, rfl, (rF_b (r := 2946) (by decide) rfl).mpr q0⟩ (fun f h => by cases h))⟩, [], List.mem_cons_self, fun f h => (by cases h)⟩
theorem rw_rvRCb0 {K : Nat → Nat} {n : Nat} {JX : (Nat → jcell) → Prop} : aGho (rF K n) fa_T K n JX ag_rvRCb0 := by
  refine aGho_of ⟨rfl, rfl⟩ ?_
  intro p σ ρ hH hX hA hM0
  have hG := aAG_of hA.1 (fun i e v he hv => (hA.2 i e v he hv).1)
  clear hA
  obtain ⟨v0, v1, v2, v3, rfl, g0, g1, g2, g3⟩ := rA_4 hG
  clear hG
  obtain ⟨x0, rfl, b0, d0⟩ := rG_ref (by decide) g0
  obtain ⟨x1, rfl, b1, d1⟩ := aG_int g1
  dsimp only at b1 d1
  obtain ⟨x2, rfl, b2, d2⟩ := aG_int g2
  dsimp only at b2 d2
  obtain ⟨x3, rfl, b3, d3⟩ := aG_int g3
  dsimp only at b3 d3
  obtain ⟨m1, m2, m3, m4⟩ := hM0
  obtain ⟨a, mc0, ty0, gc0, ic0, e1, sc0, jc0, e4, e5⟩ := m2 (0, ([], 0), 2) (List.mem_of_getElem? (i := 0) rfl)
  obtain rfl : x0 = a := Sum.inl.inj (Option.some.inj (Sum.inr.inj (Sum.inr.inj (Option.some.inj (show some (rR x0) = some _ from e1)))))
  obtain ⟨gc0, rfl⟩ : ∃ g, gc0 = .inl g := by
    rcases gc0 with g | g
    · exact ⟨g, rfl⟩
    · exact absurd (show some (rI x2) = some (.inr (.inl (g ic0))) from e5) (fun h => by cases h)
  have sc0 : σ x0 = .inl (ty0, mc0, .inl gc0) := sc0
  have ec0 : x2 = gc0 ic0 := Sum.inl.inj (Option.some.inj (show some (rI x2) = some _ from e5))
  have kc0 : (ic0 : Int) = 0 + 0 := by
    obtain ⟨z, e6, e7⟩ := e4
    obtain rfl : 0 = z := Option.some.inj (show some 0 = some z from e6)
    exact e7
  clear e1 e4 e5
  have f0 : rB K n p 184 [rR x0, rI x3] σ := by
    obtain ⟨w, e6, e7⟩ := m4 (2946, [0, 3]) (List.mem_of_getElem? (i := 0) rfl)
    obtain rfl : [rR x0, rI x3] = w := Option.some.inj (show some [rR x0, rI x3] = some w from e6)
    exact (rF_b (r := 2946) (by decide) rfl).mp e7
  have f0 := ro_184.mp f0
  clear m1 m2 m3 m4
  have r0 : 0 ≤ (1 * x2.toInt + (-1 * x3.toInt + 0)) + 0 := by
    obtain ⟨g, h, e0⟩ := f0
    have e := rRw_c (i := ic0) h sc0 ec0
    rw [show ic0 = 0 by omega] at e
    rw [e] at e0
    omega
  have r1 : 0 ≤ (-1 * x2.toInt + (1 * x3.toInt + 0)) + 0 := by
    obtain ⟨g, h, e0⟩ := f0
    have e := rRw_c (i := ic0) h sc0 ec0
    rw [show ic0 = 0 by omega] at e
    rw [e] at e0
    omega
  exact ⟨p, fun _ => rfl, ⟨(fun q h => by cases h), fun q h => (by cases h), (aAllc ⟨_, rfl, r0⟩ (aAllc ⟨_, rfl, r1⟩ (fun f h => by cases h))), (fun f h => by cases h)⟩, [], List.mem_cons_self, fun f h => (by cases h)⟩
theorem rw_rvRCc0 {K : Nat → Nat} {n : Nat} {JX : (Nat → jcell) → Prop} : aGho (rF K n) fa_T K n JX ag_rvRCc0 := by
  refine aGho_of ⟨rfl, rfl⟩ ?_
  intro p σ ρ hH hX hA hM0
  have hG := aAG_of hA.1 (fun i e v he hv => (hA.2 i e v he hv).1)
  clear hA
  obtain ⟨v0, v1, v2, v3, rfl, g0, g1, g2, g3⟩ := rA_4 hG
  clear hG
  obtain ⟨x0, rfl, b0, d0⟩ := rG_ref (by decide) g0
  obtain ⟨x1, rfl, b1, d1⟩ := aG_int g1
  dsimp only at b1 d1
  obtain ⟨x2, rfl, b2, d2⟩ := aG_int g2
  dsimp only at b2 d2
  obtain ⟨x3, rfl, b3, d3⟩ := aG_int g3
  dsimp only at b3 d3
  obtain ⟨m1, m2, m3, m4⟩ := hM0
  obtain ⟨M, hM⟩ := rMe_ex hH b0 d0
  have l0 : 0 ≤ (1 * x2.toInt + (-1 * x3.toInt + 0)) + 0 := by
    obtain ⟨z, e6, e7⟩ := m3 ([(2, 1), (3, -1)], 0) (List.mem_of_getElem? (i := 0) rfl)
    obtain rfl : (1 * x2.toInt + (-1 * x3.toInt + 0)) = z := Option.some.inj (show some (1 * x2.toInt + (-1 * x3.toInt + 0)) = some z from e6)
    exact e7
  have l1 : 0 ≤ (-1 * x2.toInt + (1 * x3.toInt + 0)) + 0 := by
    obtain ⟨z, e6, e7⟩ := m3 ([(2, -1), (3, 1)], 0) (List.mem_of_getElem? (i := 1) rfl)
    obtain rfl : (-1 * x2.toInt + (1 * x3.toInt + 0)) = z := Option.some.inj (show some (-1 * x2.toInt + (1 * x3.toInt + 0)) = some z from e6)
    exact e7
  have f0 : rB K n (rSh rS1 p [rR x0, rI x3]) 22 [rR x0] σ := by
    obtain ⟨w, e6, e7⟩ := m4 (353, [0, 0, 3]) (List.mem_of_getElem? (i := 0) rfl)
    obtain rfl : [rR x0, rR x0, rI x3] = w := Option.some.inj (show some [rR x0, rR x0, rI x3] = some w from e6)
    exact (rF_g (r := 353) (by decide)).mp e7
  obtain ⟨hq9, hR⟩ := ro_22.mp f0
  have hp : p.2 = none := rSh_n1 hq9
  clear hq9
  rw [rSh_mk hp] at hR
  obtain rfl : M = rM4 p.1 x3.toInt := rMg_u hM hR.1
  have f1 : rB K n p 23 [rR x0, rI x3] σ := by
    obtain ⟨w, e6, e7⟩ := m4 (370, [0, 3]) (List.mem_of_getElem? (i := 1) rfl)
    obtain rfl : [rR x0, rI x3] = w := Option.some.inj (show some [rR x0, rI x3] = some w from e6)
    exact (rF_b (r := 370) (by decide) rfl).mp e7
  have f1 := ro_23.mp f1
  have f2 : rB K n p 25 [rI x3] σ := by
    obtain ⟨w, e6, e7⟩ := m4 (401, [3]) (List.mem_of_getElem? (i := 2) rfl)
    obtain rfl : [rI x3] = w := Option.some.inj (show some [rI x3] = some w from e6)
    exact (rF_b (r := 401) (by decide) rfl).mp e7
  have f2 := ro_25.mp f2
  clear m1 m2 m3 m4
  obtain rfl : x2 = x3 := Int32.toInt_inj.mp (by omega)
  have q0 : rB K n (rSh rS1 p [rR x0, rI x2]) 22 [rR x0] σ := ro_22.mpr (by
    rw [rSh_mk hp]
    exact ⟨rfl, hR⟩)
  have q1 : rB K n p 28 [rR x0, rI x1, rI x2] σ := ro_28.mpr (by
    rw [show x1.toInt = 0 by omega]
    exact f1)
  have q2 : rB K n p 25 [rI x2] σ := ro_25.mpr (by
    exact f2)
  exact ⟨p, fun _ => rfl, ⟨(fun q h => by cases h), fun q h => (by cases h), (fun f h => by cases h), (aAllc ⟨_, rfl, (rF_g (r := 353) (by decide)).mpr q0⟩ (aAllc ⟨_, rfl, (rF_b (r := 451) (by decide) rfl).mpr q1⟩ (aAllc ⟨_, rfl, (rF_b (r := 401) (by decide) rfl).mpr q2⟩ (fun f h => by cases h))))⟩, [], List.mem_cons_self, fun f h => (by cases h)⟩
theorem rw_rvRCa1 {K : Nat → Nat} {n : Nat} {JX : (Nat → jcell) → Prop} : aGho (rF K n) fa_T K n JX ag_rvRCa1 := by
  refine aGho_of ⟨rfl, rfl⟩ ?_
  intro p σ ρ hH hX hA hM0
  have hG := aAG_of hA.1 (fun i e v he hv => (hA.2 i e v he hv).1)
  clear hA
  obtain ⟨v0, v1, v2, rfl, g0, g1, g2⟩ := rA_3 hG
  clear hG
  obtain ⟨x0, rfl, b0, d0⟩ := rG_ref (by decide) g0
  obtain ⟨x1, rfl, b1, d1⟩ := aG_int g1
  dsimp only at b1 d1
  obtain ⟨x2, rfl, b2, d2⟩ := aG_int g2
  dsimp only at b2 d2
  obtain ⟨m1, m2, m3, m4⟩ := hM0
  obtain ⟨a, mc0, ty0, gc0, ic0, e1, sc0, jc0, e4, e5⟩ := m2 (0, ([], 1), 2) (List.mem_of_getElem? (i := 0) rfl)
  obtain rfl : x0 = a := Sum.inl.inj (Option.some.inj (Sum.inr.inj (Sum.inr.inj (Option.some.inj (show some (rR x0) = some _ from e1)))))
  obtain ⟨gc0, rfl⟩ : ∃ g, gc0 = .inl g := by
    rcases gc0 with g | g
    · exact ⟨g, rfl⟩
    · exact absurd (show some (rI x2) = some (.inr (.inl (g ic0))) from e5) (fun h => by cases h)
  have sc0 : σ x0 = .inl (ty0, mc0, .inl gc0) := sc0
  have ec0 : x2 = gc0 ic0 := Sum.inl.inj (Option.some.inj (show some (rI x2) = some _ from e5))
  have kc0 : (ic0 : Int) = 0 + 1 := by
    obtain ⟨z, e6, e7⟩ := e4
    obtain rfl : 0 = z := Option.some.inj (show some 0 = some z from e6)
    exact e7
  clear e1 e4 e5
  clear m1 m2 m3 m4
  have q0 : rB K n p 185 [rR x0, rI x2] σ := ro_185.mpr (by
    obtain ⟨g, h⟩ := rRw_of hH b0 d0 rfl
    have e := rRw_c (i := ic0) h sc0 ec0
    rw [show ic0 = 1 by omega] at e
    exact ⟨g, h, by rw [e]⟩)
  exact ⟨p, fun _ => rfl, ⟨(fun q h => by cases h), fun q h => (by cases h), (fun f h => by cases h), (aAllc ⟨_, rfl, (rF_b (r := 2962) (by decide) rfl).mpr q0⟩ (fun f h => by cases h))⟩, [], List.mem_cons_self, fun f h => (by cases h)⟩
theorem rw_rvRCb1 {K : Nat → Nat} {n : Nat} {JX : (Nat → jcell) → Prop} : aGho (rF K n) fa_T K n JX ag_rvRCb1 := by
  refine aGho_of ⟨rfl, rfl⟩ ?_
  intro p σ ρ hH hX hA hM0
  have hG := aAG_of hA.1 (fun i e v he hv => (hA.2 i e v he hv).1)
  clear hA
  obtain ⟨v0, v1, v2, v3, rfl, g0, g1, g2, g3⟩ := rA_4 hG
  clear hG
  obtain ⟨x0, rfl, b0, d0⟩ := rG_ref (by decide) g0
  obtain ⟨x1, rfl, b1, d1⟩ := aG_int g1
  dsimp only at b1 d1
  obtain ⟨x2, rfl, b2, d2⟩ := aG_int g2
  dsimp only at b2 d2
  obtain ⟨x3, rfl, b3, d3⟩ := aG_int g3
  dsimp only at b3 d3
  obtain ⟨m1, m2, m3, m4⟩ := hM0
  obtain ⟨a, mc0, ty0, gc0, ic0, e1, sc0, jc0, e4, e5⟩ := m2 (0, ([], 1), 2) (List.mem_of_getElem? (i := 0) rfl)
  obtain rfl : x0 = a := Sum.inl.inj (Option.some.inj (Sum.inr.inj (Sum.inr.inj (Option.some.inj (show some (rR x0) = some _ from e1)))))
  obtain ⟨gc0, rfl⟩ : ∃ g, gc0 = .inl g := by
    rcases gc0 with g | g
    · exact ⟨g, rfl⟩
    · exact absurd (show some (rI x2) = some (.inr (.inl (g ic0))) from e5) (fun h => by cases h)
  have sc0 : σ x0 = .inl (ty0, mc0, .inl gc0) := sc0
  have ec0 : x2 = gc0 ic0 := Sum.inl.inj (Option.some.inj (show some (rI x2) = some _ from e5))
  have kc0 : (ic0 : Int) = 0 + 1 := by
    obtain ⟨z, e6, e7⟩ := e4
    obtain rfl : 0 = z := Option.some.inj (show some 0 = some z from e6)
    exact e7
  clear e1 e4 e5
  have f0 : rB K n p 185 [rR x0, rI x3] σ := by
    obtain ⟨w, e6, e7⟩ := m4 (2962, [0, 3]) (List.mem_of_getElem? (i := 0) rfl)
    obtain rfl : [rR x0, rI x3] = w := Option.some.inj (show some [rR x0, rI x3] = some w from e6)
    exact (rF_b (r := 2962) (by decide) rfl).mp e7
  have f0 := ro_185.mp f0
  clear m1 m2 m3 m4
  have r0 : 0 ≤ (1 * x2.toInt + (-1 * x3.toInt + 0)) + 0 := by
    obtain ⟨g, h, e0⟩ := f0
    have e := rRw_c (i := ic0) h sc0 ec0
    rw [show ic0 = 1 by omega] at e
    rw [e] at e0
    omega
  have r1 : 0 ≤ (-1 * x2.toInt + (1 * x3.toInt + 0)) + 0 := by
    obtain ⟨g, h, e0⟩ := f0
    have e := rRw_c (i := ic0) h sc0 ec0
    rw [show ic0 = 1 by omega] at e
    rw [e] at e0
    omega
  exact ⟨p, fun _ => rfl, ⟨(fun q h => by cases h), fun q h => (by cases h), (aAllc ⟨_, rfl, r0⟩ (aAllc ⟨_, rfl, r1⟩ (fun f h => by cases h))), (fun f h => by cases h)⟩, [], List.mem_cons_self, fun f h => (by cases h)⟩
theorem rw_rvRCc1 {K : Nat → Nat} {n : Nat} {JX : (Nat → jcell) → Prop} : aGho (rF K n) fa_T K n JX ag_rvRCc1 := by
  refine aGho_of ⟨rfl, rfl⟩ ?_
  intro p σ ρ hH hX hA hM0
  have hG := aAG_of hA.1 (fun i e v he hv => (hA.2 i e v he hv).1)
  clear hA
  obtain ⟨v0, v1, v2, v3, rfl, g0, g1, g2, g3⟩ := rA_4 hG
  clear hG
  obtain ⟨x0, rfl, b0, d0⟩ := rG_ref (by decide) g0
  obtain ⟨x1, rfl, b1, d1⟩ := aG_int g1
  dsimp only at b1 d1
  obtain ⟨x2, rfl, b2, d2⟩ := aG_int g2
  dsimp only at b2 d2
  obtain ⟨x3, rfl, b3, d3⟩ := aG_int g3
  dsimp only at b3 d3
  obtain ⟨m1, m2, m3, m4⟩ := hM0
  obtain ⟨M, hM⟩ := rMe_ex hH b0 d0
  have l0 : 0 ≤ (1 * x2.toInt + (-1 * x3.toInt + 0)) + 0 := by
    obtain ⟨z, e6, e7⟩ := m3 ([(2, 1), (3, -1)], 0) (List.mem_of_getElem? (i := 0) rfl)
    obtain rfl : (1 * x2.toInt + (-1 * x3.toInt + 0)) = z := Option.some.inj (show some (1 * x2.toInt + (-1 * x3.toInt + 0)) = some z from e6)
    exact e7
  have l1 : 0 ≤ (-1 * x2.toInt + (1 * x3.toInt + 0)) + 0 := by
    obtain ⟨z, e6, e7⟩ := m3 ([(2, -1), (3, 1)], 0) (List.mem_of_getElem? (i := 1) rfl)
    obtain rfl : (-1 * x2.toInt + (1 * x3.toInt + 0)) = z := Option.some.inj (show some (-1 * x2.toInt + (1 * x3.toInt + 0)) = some z from e6)
    exact e7
  have f0 : rB K n (rSh rS1 p [rR x0, rI x3]) 22 [rR x0] σ := by
    obtain ⟨w, e6, e7⟩ := m4 (353, [0, 0, 3]) (List.mem_of_getElem? (i := 0) rfl)
    obtain rfl : [rR x0, rR x0, rI x3] = w := Option.some.inj (show some [rR x0, rR x0, rI x3] = some w from e6)
    exact (rF_g (r := 353) (by decide)).mp e7
  obtain ⟨hq9, hR⟩ := ro_22.mp f0
  have hp : p.2 = none := rSh_n1 hq9
  clear hq9
  rw [rSh_mk hp] at hR
  obtain rfl : M = rM4 p.1 x3.toInt := rMg_u hM hR.1
  have f1 : rB K n p 26 [rR x0, rI x3] σ := by
    obtain ⟨w, e6, e7⟩ := m4 (418, [0, 3]) (List.mem_of_getElem? (i := 1) rfl)
    obtain rfl : [rR x0, rI x3] = w := Option.some.inj (show some [rR x0, rI x3] = some w from e6)
    exact (rF_b (r := 418) (by decide) rfl).mp e7
  have f1 := ro_26.mp f1
  have f2 : rB K n p 25 [rI x3] σ := by
    obtain ⟨w, e6, e7⟩ := m4 (401, [3]) (List.mem_of_getElem? (i := 2) rfl)
    obtain rfl : [rI x3] = w := Option.some.inj (show some [rI x3] = some w from e6)
    exact (rF_b (r := 401) (by decide) rfl).mp e7
  have f2 := ro_25.mp f2
  clear m1 m2 m3 m4
  obtain rfl : x2 = x3 := Int32.toInt_inj.mp (by omega)
  have q0 : rB K n (rSh rS1 p [rR x0, rI x2]) 22 [rR x0] σ := ro_22.mpr (by
    rw [rSh_mk hp]
    exact ⟨rfl, hR⟩)
  have q1 : rB K n p 28 [rR x0, rI x1, rI x2] σ := ro_28.mpr (by
    rw [show x1.toInt = 1 by omega]
    exact f1)
  have q2 : rB K n p 25 [rI x2] σ := ro_25.mpr (by
    exact f2)
  exact ⟨p, fun _ => rfl, ⟨(fun q h => by cases h), fun q h => (by cases h), (fun f h => by cases h), (aAllc ⟨_, rfl, (rF_g (r := 353) (by decide)).mpr q0⟩ (aAllc ⟨_, rfl, (rF_b (r := 451) (by decide) rfl).mpr q1⟩ (aAllc ⟨_, rfl, (rF_b (r := 401) (by decide) rfl).mpr q2⟩ (fun f h => by cases h))))⟩, [], List.mem_cons_self, fun f h => (by cases h)⟩
theorem rw_rvRCa2 {K : Nat → Nat} {n : Nat} {JX : (Nat → jcell) → Prop} : aGho (rF K n) fa_T K n JX ag_rvRCa2 := by
  refine aGho_of ⟨rfl, rfl⟩ ?_
  intro p σ ρ hH hX hA hM0
  have hG := aAG_of hA.1 (fun i e v he hv => (hA.2 i e v he hv).1)
  clear hA
  obtain ⟨v0, v1, v2, rfl, g0, g1, g2⟩ := rA_3 hG
  clear hG
  obtain ⟨x0, rfl, b0, d0⟩ := rG_ref (by decide) g0
  obtain ⟨x1, rfl, b1, d1⟩ := aG_int g1
  dsimp only at b1 d1
  obtain ⟨x2, rfl, b2, d2⟩ := aG_int g2
  dsimp only at b2 d2
  obtain ⟨m1, m2, m3, m4⟩ := hM0
  obtain ⟨a, mc0, ty0, gc0, ic0, e1, sc0, jc0, e4, e5⟩ := m2 (0, ([], 2), 2) (List.mem_of_getElem? (i := 0) rfl)
  obtain rfl : x0 = a := Sum.inl.inj (Option.some.inj (Sum.inr.inj (Sum.inr.inj (Option.some.inj (show some (rR x0) = some _ from e1)))))
  obtain ⟨gc0, rfl⟩ : ∃ g, gc0 = .inl g := by
    rcases gc0 with g | g
    · exact ⟨g, rfl⟩
    · exact absurd (show some (rI x2) = some (.inr (.inl (g ic0))) from e5) (fun h => by cases h)
  have sc0 : σ x0 = .inl (ty0, mc0, .inl gc0) := sc0
  have ec0 : x2 = gc0 ic0 := Sum.inl.inj (Option.some.inj (show some (rI x2) = some _ from e5))
  have kc0 : (ic0 : Int) = 0 + 2 := by
    obtain ⟨z, e6, e7⟩ := e4
    obtain rfl : 0 = z := Option.some.inj (show some 0 = some z from e6)
    exact e7
  clear e1 e4 e5
  clear m1 m2 m3 m4
  have q0 : rB K n p 186 [rR x0, rI x2] σ := ro_186.mpr (by
    obtain ⟨g, h⟩ := rRw_of hH b0 d0 rfl
    have e := rRw_c (i := ic0) h sc0 ec0
    rw [show ic0 = 2 by omega] at e
    exact ⟨g, h, by rw [e]⟩)
  exact ⟨p, fun _ => rfl, ⟨(fun q h => by cases h), fun q h => (by cases h), (fun f h => by cases h), (aAllc ⟨_, rfl, (rF_b (r := 2978) (by decide) rfl).mpr q0⟩ (fun f h => by cases h))⟩, [], List.mem_cons_self, fun f h => (by cases h)⟩
theorem rw_rvRCb2 {K : Nat → Nat} {n : Nat} {JX : (Nat → jcell) → Prop} : aGho (rF K n) fa_T K n JX ag_rvRCb2 := by
  refine aGho_of ⟨rfl, rfl⟩ ?_
  intro p σ ρ hH hX hA hM0
  have hG := aAG_of hA.1 (fun i e v he hv => (hA.2 i e v he hv).1)
  clear hA
  obtain ⟨v0, v1, v2, v3, rfl, g0, g1, g2, g3⟩ := rA_4 hG
  clear hG
  obtain ⟨x0, rfl, b0, d0⟩ := rG_ref (by decide) g0
  obtain ⟨x1, rfl, b1, d1⟩ := aG_int g1
  dsimp only at b1 d1
  obtain ⟨x2, rfl, b2, d2⟩ := aG_int g2
  dsimp only at b2 d2
  obtain ⟨x3, rfl, b3, d3⟩ := aG_int g3
  dsimp only at b3 d3
  obtain ⟨m1, m2, m3, m4⟩ := hM0
  obtain ⟨a, mc0, ty0, gc0, ic0, e1, sc0, jc0, e4, e5⟩ := m2 (0, ([], 2), 2) (List.mem_of_getElem? (i := 0) rfl)
  obtain rfl : x0 = a := Sum.inl.inj (Option.some.inj (Sum.inr.inj (Sum.inr.inj (Option.some.inj (show some (rR x0) = some _ from e1)))))
  obtain ⟨gc0, rfl⟩ : ∃ g, gc0 = .inl g := by
    rcases gc0 with g | g
    · exact ⟨g, rfl⟩
    · exact absurd (show some (rI x2) = some (.inr (.inl (g ic0))) from e5) (fun h => by cases h)
  have sc0 : σ x0 = .inl (ty0, mc0, .inl gc0) := sc0
  have ec0 : x2 = gc0 ic0 := Sum.inl.inj (Option.some.inj (show some (rI x2) = some _ from e5))
  have kc0 : (ic0 : Int) = 0 + 2 := by
    obtain ⟨z, e6, e7⟩ := e4
    obtain rfl : 0 = z := Option.some.inj (show some 0 = some z from e6)
    exact e7
  clear e1 e4 e5
  have f0 : rB K n p 186 [rR x0, rI x3] σ := by
    obtain ⟨w, e6, e7⟩ := m4 (2978, [0, 3]) (List.mem_of_getElem? (i := 0) rfl)
    obtain rfl : [rR x0, rI x3] = w := Option.some.inj (show some [rR x0, rI x3] = some w from e6)
    exact (rF_b (r := 2978) (by decide) rfl).mp e7
  have f0 := ro_186.mp f0
  clear m1 m2 m3 m4
  have r0 : 0 ≤ (1 * x2.toInt + (-1 * x3.toInt + 0)) + 0 := by
    obtain ⟨g, h, e0⟩ := f0
    have e := rRw_c (i := ic0) h sc0 ec0
    rw [show ic0 = 2 by omega] at e
    rw [e] at e0
    omega
  have r1 : 0 ≤ (-1 * x2.toInt + (1 * x3.toInt + 0)) + 0 := by
    obtain ⟨g, h, e0⟩ := f0
    have e := rRw_c (i := ic0) h sc0 ec0
    rw [show ic0 = 2 by omega] at e
    rw [e] at e0
    omega
  exact ⟨p, fun _ => rfl, ⟨(fun q h => by cases h), fun q h => (by cases h), (aAllc ⟨_, rfl, r0⟩ (aAllc ⟨_, rfl, r1⟩ (fun f h => by cases h))), (fun f h => by cases h)⟩, [], List.mem_cons_self, fun f h => (by cases h)⟩
theorem rw_rvRCc2 {K : Nat → Nat} {n : Nat} {JX : (Nat → jcell) → Prop} : aGho (rF K n) fa_T K n JX ag_rvRCc2 := by
  refine aGho_of ⟨rfl, rfl⟩ ?_
  intro p σ ρ hH hX hA hM0
  have hG := aAG_of hA.1 (fun i e v he hv => (hA.2 i e v he hv).1)
  clear hA
  obtain ⟨v0, v1, v2, v3, rfl, g0, g1, g2, g3⟩ := rA_4 hG
  clear hG
  obtain ⟨x0, rfl, b0, d0⟩ := rG_ref (by decide) g0
  obtain ⟨x1, rfl, b1, d1⟩ := aG_int g1
  dsimp only at b1 d1
  obtain ⟨x2, rfl, b2, d2⟩ := aG_int g2
  dsimp only at b2 d2
  obtain ⟨x3, rfl, b3, d3⟩ := aG_int g3
  dsimp only at b3 d3
  obtain ⟨m1, m2, m3, m4⟩ := hM0
  obtain ⟨M, hM⟩ := rMe_ex hH b0 d0
  have l0 : 0 ≤ (1 * x2.toInt + (-1 * x3.toInt + 0)) + 0 := by
    obtain ⟨z, e6, e7⟩ := m3 ([(2, 1), (3, -1)], 0) (List.mem_of_getElem? (i := 0) rfl)
    obtain rfl : (1 * x2.toInt + (-1 * x3.toInt + 0)) = z := Option.some.inj (show some (1 * x2.toInt + (-1 * x3.toInt + 0)) = some z from e6)
    exact e7
  have l1 : 0 ≤ (-1 * x2.toInt + (1 * x3.toInt + 0)) + 0 := by
    obtain ⟨z, e6, e7⟩ := m3 ([(2, -1), (3, 1)], 0) (List.mem_of_getElem? (i := 1) rfl)
    obtain rfl : (-1 * x2.toInt + (1 * x3.toInt + 0)) = z := Option.some.inj (show some (-1 * x2.toInt + (1 * x3.toInt + 0)) = some z from e6)
    exact e7
  have f0 : rB K n (rSh rS1 p [rR x0, rI x3]) 22 [rR x0] σ := by
    obtain ⟨w, e6, e7⟩ := m4 (353, [0, 0, 3]) (List.mem_of_getElem? (i := 0) rfl)
    obtain rfl : [rR x0, rR x0, rI x3] = w := Option.some.inj (show some [rR x0, rR x0, rI x3] = some w from e6)
    exact (rF_g (r := 353) (by decide)).mp e7
  obtain ⟨hq9, hR⟩ := ro_22.mp f0
  have hp : p.2 = none := rSh_n1 hq9
  clear hq9
  rw [rSh_mk hp] at hR
  obtain rfl : M = rM4 p.1 x3.toInt := rMg_u hM hR.1
  have f1 : rB K n p 27 [rR x0, rI x3] σ := by
    obtain ⟨w, e6, e7⟩ := m4 (434, [0, 3]) (List.mem_of_getElem? (i := 1) rfl)
    obtain rfl : [rR x0, rI x3] = w := Option.some.inj (show some [rR x0, rI x3] = some w from e6)
    exact (rF_b (r := 434) (by decide) rfl).mp e7
  have f1 := ro_27.mp f1
  have f2 : rB K n p 25 [rI x3] σ := by
    obtain ⟨w, e6, e7⟩ := m4 (401, [3]) (List.mem_of_getElem? (i := 2) rfl)
    obtain rfl : [rI x3] = w := Option.some.inj (show some [rI x3] = some w from e6)
    exact (rF_b (r := 401) (by decide) rfl).mp e7
  have f2 := ro_25.mp f2
  clear m1 m2 m3 m4
  obtain rfl : x2 = x3 := Int32.toInt_inj.mp (by omega)
  have q0 : rB K n (rSh rS1 p [rR x0, rI x2]) 22 [rR x0] σ := ro_22.mpr (by
    rw [rSh_mk hp]
    exact ⟨rfl, hR⟩)
  have q1 : rB K n p 28 [rR x0, rI x1, rI x2] σ := ro_28.mpr (by
    rw [show x1.toInt = 2 by omega]
    exact f1)
  have q2 : rB K n p 25 [rI x2] σ := ro_25.mpr (by
    exact f2)
  exact ⟨p, fun _ => rfl, ⟨(fun q h => by cases h), fun q h => (by cases h), (fun f h => by cases h), (aAllc ⟨_, rfl, (rF_g (r := 353) (by decide)).mpr q0⟩ (aAllc ⟨_, rfl, (rF_b (r := 451) (by decide) rfl).mpr q1⟩ (aAllc ⟨_, rfl, (rF_b (r := 401) (by decide) rfl).mpr q2⟩ (fun f h => by cases h))))⟩, [], List.mem_cons_self, fun f h => (by cases h)⟩
theorem rw_rvRCa3 {K : Nat → Nat} {n : Nat} {JX : (Nat → jcell) → Prop} : aGho (rF K n) fa_T K n JX ag_rvRCa3 := by
  refine aGho_of ⟨rfl, rfl⟩ ?_
  intro p σ ρ hH hX hA hM0
  have hG := aAG_of hA.1 (fun i e v he hv => (hA.2 i e v he hv).1)
  clear hA
  obtain ⟨v0, v1, v2, rfl, g0, g1, g2⟩ := rA_3 hG
  clear hG
  obtain ⟨x0, rfl, b0, d0⟩ := rG_ref (by decide) g0
  obtain ⟨x1, rfl, b1, d1⟩ := aG_int g1
  dsimp only at b1 d1
  obtain ⟨x2, rfl, b2, d2⟩ := aG_int g2
  dsimp only at b2 d2
  obtain ⟨m1, m2, m3, m4⟩ := hM0
  obtain ⟨a, mc0, ty0, gc0, ic0, e1, sc0, jc0, e4, e5⟩ := m2 (0, ([], 3), 2) (List.mem_of_getElem? (i := 0) rfl)
  obtain rfl : x0 = a := Sum.inl.inj (Option.some.inj (Sum.inr.inj (Sum.inr.inj (Option.some.inj (show some (rR x0) = some _ from e1)))))
  obtain ⟨gc0, rfl⟩ : ∃ g, gc0 = .inl g := by
    rcases gc0 with g | g
    · exact ⟨g, rfl⟩
    · exact absurd (show some (rI x2) = some (.inr (.inl (g ic0))) from e5) (fun h => by cases h)
  have sc0 : σ x0 = .inl (ty0, mc0, .inl gc0) := sc0
  have ec0 : x2 = gc0 ic0 := Sum.inl.inj (Option.some.inj (show some (rI x2) = some _ from e5))
  have kc0 : (ic0 : Int) = 0 + 3 := by
    obtain ⟨z, e6, e7⟩ := e4
    obtain rfl : 0 = z := Option.some.inj (show some 0 = some z from e6)
    exact e7
  clear e1 e4 e5
  clear m1 m2 m3 m4
  have q0 : rB K n p 187 [rR x0, rI x2] σ := ro_187.mpr (by
    obtain ⟨g, h⟩ := rRw_of hH b0 d0 rfl
    have e := rRw_c (i := ic0) h sc0 ec0
    rw [show ic0 = 3 by omega] at e
    exact ⟨g, h, by rw [e]⟩)
  exact ⟨p, fun _ => rfl, ⟨(fun q h => by cases h), fun q h => (by cases h), (fun f h => by cases h), (aAllc ⟨_, rfl, (rF_b (r := 2994) (by decide) rfl).mpr q0⟩ (fun f h => by cases h))⟩, [], List.mem_cons_self, fun f h => (by cases h)⟩
theorem rw_rvRCb3 {K : Nat → Nat} {n : Nat} {JX : (Nat → jcell) → Prop} : aGho (rF K n) fa_T K n JX ag_rvRCb3 := by
  refine aGho_of ⟨rfl, rfl⟩ ?_
  intro p σ ρ hH hX hA hM0
  have hG := aAG_of hA.1 (fun i e v he hv => (hA.2 i e v he hv).1)
  clear hA
  obtain ⟨v0, v1, v2, v3, rfl, g0, g1, g2, g3⟩ := rA_4 hG
  clear hG
  obtain ⟨x0, rfl, b0, d0⟩ := rG_ref (by decide) g0
  obtain ⟨x1, rfl, b1, d1⟩ := aG_int g1
  dsimp only at b1 d1
  obtain ⟨x2, rfl, b2, d2⟩ := aG_int g2
  dsimp only at b2 d2
  obtain ⟨x3, rfl, b3, d3⟩ := aG_int g3
  dsimp only at b3 d3
  obtain ⟨m1, m2, m3, m4⟩ := hM0
  obtain ⟨a, mc0, ty0, gc0, ic0, e1, sc0, jc0, e4, e5⟩ := m2 (0, ([], 3), 2) (List.mem_of_getElem? (i := 0) rfl)
  obtain rfl : x0 = a := Sum.inl.inj (Option.some.inj (Sum.inr.inj (Sum.inr.inj (Option.some.inj (show some (rR x0) = some _ from e1)))))
  obtain ⟨gc0, rfl⟩ : ∃ g, gc0 = .inl g := by
    rcases gc0 with g | g
    · exact ⟨g, rfl⟩
    · exact absurd (show some (rI x2) = some (.inr (.inl (g ic0))) from e5) (fun h => by cases h)
  have sc0 : σ x0 = .inl (ty0, mc0, .inl gc0) := sc0
  have ec0 : x2 = gc0 ic0 := Sum.inl.inj (Option.some.inj (show some (rI x2) = some _ from e5))
  have kc0 : (ic0 : Int) = 0 + 3 := by
    obtain ⟨z, e6, e7⟩ := e4
    obtain rfl : 0 = z := Option.some.inj (show some 0 = some z from e6)
    exact e7
  clear e1 e4 e5
  have f0 : rB K n p 187 [rR x0, rI x3] σ := by
    obtain ⟨w, e6, e7⟩ := m4 (2994, [0, 3]) (List.mem_of_getElem? (i := 0) rfl)
    obtain rfl : [rR x0, rI x3] = w := Option.some.inj (show some [rR x0, rI x3] = some w from e6)
    exact (rF_b (r := 2994) (by decide) rfl).mp e7
  have f0 := ro_187.mp f0
  clear m1 m2 m3 m4
  have r0 : 0 ≤ (1 * x2.toInt + (-1 * x3.toInt + 0)) + 0 := by
    obtain ⟨g, h, e0⟩ := f0
    have e := rRw_c (i := ic0) h sc0 ec0
    rw [show ic0 = 3 by omega] at e
    rw [e] at e0
    omega
  have r1 : 0 ≤ (-1 * x2.toInt + (1 * x3.toInt + 0)) + 0 := by
    obtain ⟨g, h, e0⟩ := f0
    have e := rRw_c (i := ic0) h sc0 ec0
    rw [show ic0 = 3 by omega] at e
    rw [e] at e0
    omega
  exact ⟨p, fun _ => rfl, ⟨(fun q h => by cases h), fun q h => (by cases h), (aAllc ⟨_, rfl, r0⟩ (aAllc ⟨_, rfl, r1⟩ (fun f h => by cases h))), (fun f h => by cases h)⟩, [], List.mem_cons_self, fun f h => (by cases h)⟩
theorem rw_rvRCc3 {K : Nat → Nat} {n : Nat} {JX : (Nat → jcell) → Prop} : aGho (rF K n) fa_T K n JX ag_rvRCc3 := by
  refine aGho_of ⟨rfl, rfl⟩ ?_
  intro p σ ρ hH hX hA hM0
  have hG := aAG_of hA.1 (fun i e v he hv => (hA.2 i e v he hv).1)
  clear hA
  obtain ⟨v0, v1, v2, v3, rfl, g0, g1, g2, g3⟩ := rA_4 hG
  clear hG
  obtain ⟨x0, rfl, b0, d0⟩ := rG_ref (by decide) g0
  obtain ⟨x1, rfl, b1, d1⟩ := aG_int g1
  dsimp only at b1 d1
  obtain ⟨x2, rfl, b2, d2⟩ := aG_int g2
  dsimp only at b2 d2
  obtain ⟨x3, rfl, b3, d3⟩ := aG_int g3
  dsimp only at b3 d3
  obtain ⟨m1, m2, m3, m4⟩ := hM0
  obtain ⟨M, hM⟩ := rMe_ex hH b0 d0
  have l0 : 0 ≤ (1 * x2.toInt + (-1 * x3.toInt + 0)) + 0 := by
    obtain ⟨z, e6, e7⟩ := m3 ([(2, 1), (3, -1)], 0) (List.mem_of_getElem? (i := 0) rfl)
    obtain rfl : (1 * x2.toInt + (-1 * x3.toInt + 0)) = z := Option.some.inj (show some (1 * x2.toInt + (-1 * x3.toInt + 0)) = some z from e6)
    exact e7
  have l1 : 0 ≤ (-1 * x2.toInt + (1 * x3.toInt + 0)) + 0 := by
    obtain ⟨z, e6, e7⟩ := m3 ([(2, -1), (3, 1)], 0) (List.mem_of_getElem? (i := 1) rfl)
    obtain rfl : (-1 * x2.toInt + (1 * x3.toInt + 0)) = z := Option.some.inj (show some (-1 * x2.toInt + (1 * x3.toInt + 0)) = some z from e6)
    exact e7
  have f0 : rB K n (rSh rS1 p [rR x0, rI x3]) 22 [rR x0] σ := by
    obtain ⟨w, e6, e7⟩ := m4 (353, [0, 0, 3]) (List.mem_of_getElem? (i := 0) rfl)
    obtain rfl : [rR x0, rR x0, rI x3] = w := Option.some.inj (show some [rR x0, rR x0, rI x3] = some w from e6)
    exact (rF_g (r := 353) (by decide)).mp e7
  obtain ⟨hq9, hR⟩ := ro_22.mp f0
  have hp : p.2 = none := rSh_n1 hq9
  clear hq9
  rw [rSh_mk hp] at hR
  obtain rfl : M = rM4 p.1 x3.toInt := rMg_u hM hR.1
  have f1 : rB K n p 48 [rR x0, rI x3] σ := by
    obtain ⟨w, e6, e7⟩ := m4 (770, [0, 3]) (List.mem_of_getElem? (i := 1) rfl)
    obtain rfl : [rR x0, rI x3] = w := Option.some.inj (show some [rR x0, rI x3] = some w from e6)
    exact (rF_b (r := 770) (by decide) rfl).mp e7
  have f1 := ro_48.mp f1
  have f2 : rB K n p 25 [rI x3] σ := by
    obtain ⟨w, e6, e7⟩ := m4 (401, [3]) (List.mem_of_getElem? (i := 2) rfl)
    obtain rfl : [rI x3] = w := Option.some.inj (show some [rI x3] = some w from e6)
    exact (rF_b (r := 401) (by decide) rfl).mp e7
  have f2 := ro_25.mp f2
  clear m1 m2 m3 m4
  obtain rfl : x2 = x3 := Int32.toInt_inj.mp (by omega)
  have q0 : rB K n (rSh rS1 p [rR x0, rI x2]) 22 [rR x0] σ := ro_22.mpr (by
    rw [rSh_mk hp]
    exact ⟨rfl, hR⟩)
  have q1 : rB K n p 28 [rR x0, rI x1, rI x2] σ := ro_28.mpr (by
    rw [show x1.toInt = 3 by omega]
    exact f1)
  have q2 : rB K n p 25 [rI x2] σ := ro_25.mpr (by
    exact f2)
  exact ⟨p, fun _ => rfl, ⟨(fun q h => by cases h), fun q h => (by cases h), (fun f h => by cases h), (aAllc ⟨_, rfl, (rF_g (r := 353) (by decide)).mpr q0⟩ (aAllc ⟨_, rfl, (rF_b (r := 451) (by decide) rfl).mpr q1⟩ (aAllc ⟨_, rfl, (rF_b (r := 401) (by decide) rfl).mpr q2⟩ (fun f h => by cases h))))⟩, [], List.mem_cons_self, fun f h => (by cases h)⟩
theorem rw_rvLN1 {K : Nat → Nat} {n : Nat} {JX : (Nat → jcell) → Prop} : aGho (rF K n) fa_T K n JX ag_rvLN1 := by
  refine aGho_of ⟨rfl, rfl⟩ ?_
  intro p σ ρ hH hX hA hM0
  have hG := aAG_of hA.1 (fun i e v he hv => (hA.2 i e v he hv).1)
  clear hA
  obtain ⟨v0, v1, v2, v3, rfl, g0, g1, g2, g3⟩ := rA_4 hG
  clear hG
  obtain ⟨x0, rfl, b0, d0⟩ := rG_ref (by decide) g0
  obtain ⟨x1, rfl, b1, d1⟩ := rG_ref (by decide) g1
  obtain ⟨x2, rfl, b2, d2⟩ := aG_int g2
  dsimp only at b2 d2
  obtain ⟨x3, rfl, b3, d3⟩ := aG_int g3
  dsimp only at b3 d3
  obtain ⟨m1, m2, m3, m4⟩ := hM0
  obtain ⟨M, hM⟩ := rMe_ex hH b0 d0
  obtain ⟨a0, c0, fs0, w0, e1, s0, t0, e4⟩ := m1 (0, 28, 1) (List.mem_of_getElem? (i := 0) rfl)
  obtain rfl : x0 = a0 := Sum.inl.inj (Option.some.inj (Sum.inr.inj (Sum.inr.inj (Option.some.inj (show some (rR x0) = some _ from e1)))))
  obtain rfl : rR x1 = w0 := Option.some.inj (show some (rR x1) = some w0 from e4)
  clear e1 e4
  obtain ⟨a1, c1, fs1, w1, e1, s1, t1, e4⟩ := m1 (0, 27, 3) (List.mem_of_getElem? (i := 1) rfl)
  obtain rfl : x0 = a1 := Sum.inl.inj (Option.some.inj (Sum.inr.inj (Sum.inr.inj (Option.some.inj (show some (rR x0) = some _ from e1)))))
  obtain rfl : rI x3 = w1 := Option.some.inj (show some (rI x3) = some w1 from e4)
  clear e1 e4
  have f0 : rB K n p 184 [rR x1, rI x2] σ := by
    obtain ⟨w, e6, e7⟩ := m4 (2946, [1, 2]) (List.mem_of_getElem? (i := 0) rfl)
    obtain rfl : [rR x1, rI x2] = w := Option.some.inj (show some [rR x1, rI x2] = some w from e6)
    exact (rF_b (r := 2946) (by decide) rfl).mp e7
  have f0 := ro_184.mp f0
  have f1 : rB K n p 25 [rI x2] σ := by
    obtain ⟨w, e6, e7⟩ := m4 (401, [2]) (List.mem_of_getElem? (i := 1) rfl)
    obtain rfl : [rI x2] = w := Option.some.inj (show some [rI x2] = some w from e6)
    exact (rF_b (r := 401) (by decide) rfl).mp e7
  have f1 := ro_25.mp f1
  have f2 : rB K n (rSh rS1 p [rR x0, rI x2]) 24 [] σ := by
    obtain ⟨w, e6, e7⟩ := m4 (384, [0, 2]) (List.mem_of_getElem? (i := 2) rfl)
    obtain rfl : [rR x0, rI x2] = w := Option.some.inj (show some [rR x0, rI x2] = some w from e6)
    exact (rF_g (r := 384) (by decide)).mp e7
  have f2 := ro_24.mp f2
  clear m1 m2 m3 m4
  have q0 : rB K n p 96 [rR x1, rI x3] σ := ro_96.mpr (by
    obtain ⟨g0, h0, e0⟩ := f0
    have e0 : g0 0 = x2 := Int32.toInt_inj.mp e0
    refine ⟨g0, x0, Or.inl h0, ?_⟩
    rw [show x3.toInt.toNat = 1 by omega]
    unfold rLn
    rw [e0]
    exact rLn_1 f1 f2)
  exact ⟨p, fun _ => rfl, ⟨(fun q h => by cases h), fun q h => (by cases h), (fun f h => by cases h), (aAllc ⟨_, rfl, (rF_b (r := 1538) (by decide) rfl).mpr q0⟩ (fun f h => by cases h))⟩, [], List.mem_cons_self, fun f h => (by cases h)⟩
theorem rw_rvLN2 {K : Nat → Nat} {n : Nat} {JX : (Nat → jcell) → Prop} : aGho (rF K n) fa_T K n JX ag_rvLN2 := by
  refine aGho_of ⟨rfl, rfl⟩ ?_
  intro p σ ρ hH hX hA hM0
  have hG := aAG_of hA.1 (fun i e v he hv => (hA.2 i e v he hv).1)
  clear hA
  obtain ⟨v0, v1, v2, v3, v4, rfl, g0, g1, g2, g3, g4⟩ := rA_5 hG
  clear hG
  obtain ⟨x0, rfl, b0, d0⟩ := rG_ref (by decide) g0
  obtain ⟨x1, rfl, b1, d1⟩ := rG_ref (by decide) g1
  obtain ⟨x2, rfl, b2, d2⟩ := aG_int g2
  dsimp only at b2 d2
  obtain ⟨x3, rfl, b3, d3⟩ := aG_int g3
  dsimp only at b3 d3
  obtain ⟨x4, rfl, b4, d4⟩ := aG_int g4
  dsimp only at b4 d4
  obtain ⟨m1, m2, m3, m4⟩ := hM0
  obtain ⟨M, hM⟩ := rMe_ex hH b0 d0
  obtain ⟨a0, c0, fs0, w0, e1, s0, t0, e4⟩ := m1 (0, 28, 1) (List.mem_of_getElem? (i := 0) rfl)
  obtain rfl : x0 = a0 := Sum.inl.inj (Option.some.inj (Sum.inr.inj (Sum.inr.inj (Option.some.inj (show some (rR x0) = some _ from e1)))))
  obtain rfl : rR x1 = w0 := Option.some.inj (show some (rR x1) = some w0 from e4)
  clear e1 e4
  obtain ⟨a1, c1, fs1, w1, e1, s1, t1, e4⟩ := m1 (0, 27, 4) (List.mem_of_getElem? (i := 1) rfl)
  obtain rfl : x0 = a1 := Sum.inl.inj (Option.some.inj (Sum.inr.inj (Sum.inr.inj (Option.some.inj (show some (rR x0) = some _ from e1)))))
  obtain rfl : rI x4 = w1 := Option.some.inj (show some (rI x4) = some w1 from e4)
  clear e1 e4
  have f0 : rB K n p 184 [rR x1, rI x2] σ := by
    obtain ⟨w, e6, e7⟩ := m4 (2946, [1, 2]) (List.mem_of_getElem? (i := 0) rfl)
    obtain rfl : [rR x1, rI x2] = w := Option.some.inj (show some [rR x1, rI x2] = some w from e6)
    exact (rF_b (r := 2946) (by decide) rfl).mp e7
  have f0 := ro_184.mp f0
  have f1 : rB K n p 185 [rR x1, rI x3] σ := by
    obtain ⟨w, e6, e7⟩ := m4 (2962, [1, 3]) (List.mem_of_getElem? (i := 1) rfl)
    obtain rfl : [rR x1, rI x3] = w := Option.some.inj (show some [rR x1, rI x3] = some w from e6)
    exact (rF_b (r := 2962) (by decide) rfl).mp e7
  have f1 := ro_185.mp f1
  have f2 : rB K n p 25 [rI x2] σ := by
    obtain ⟨w, e6, e7⟩ := m4 (401, [2]) (List.mem_of_getElem? (i := 2) rfl)
    obtain rfl : [rI x2] = w := Option.some.inj (show some [rI x2] = some w from e6)
    exact (rF_b (r := 401) (by decide) rfl).mp e7
  have f2 := ro_25.mp f2
  have f3 : rB K n (rSh rS1 p [rR x0, rI x2]) 24 [] σ := by
    obtain ⟨w, e6, e7⟩ := m4 (384, [0, 2]) (List.mem_of_getElem? (i := 3) rfl)
    obtain rfl : [rR x0, rI x2] = w := Option.some.inj (show some [rR x0, rI x2] = some w from e6)
    exact (rF_g (r := 384) (by decide)).mp e7
  have f3 := ro_24.mp f3
  have f4 : rB K n (rSh rS1 p [rR x0, rI x2]) 25 [rI x3] σ := by
    obtain ⟨w, e6, e7⟩ := m4 (401, [3, 0, 2]) (List.mem_of_getElem? (i := 4) rfl)
    obtain rfl : [rI x3, rR x0, rI x2] = w := Option.some.inj (show some [rI x3, rR x0, rI x2] = some w from e6)
    exact (rF_g (r := 401) (by decide)).mp e7
  have f4 := ro_25.mp f4
  have f5 : rB K n (rSh rS1 p [rR x0, rI x3, rR x0, rI x2]) 24 [] σ := by
    obtain ⟨w, e6, e7⟩ := m4 (384, [0, 3, 0, 2]) (List.mem_of_getElem? (i := 5) rfl)
    obtain rfl : [rR x0, rI x3, rR x0, rI x2] = w := Option.some.inj (show some [rR x0, rI x3, rR x0, rI x2] = some w from e6)
    exact (rF_g (r := 384) (by decide)).mp e7
  have f5 := ro_24.mp f5
  clear m1 m2 m3 m4
  have q0 : rB K n p 96 [rR x1, rI x4] σ := ro_96.mpr (by
    obtain ⟨g0, h0, e0⟩ := f0
    have e0 : g0 0 = x2 := Int32.toInt_inj.mp e0
    obtain ⟨g1, h1, e1⟩ := f1
    obtain rfl := rRw_u h0 h1
    have e1 : g0 1 = x3 := Int32.toInt_inj.mp e1
    refine ⟨g0, x0, Or.inl h0, ?_⟩
    rw [show x4.toInt.toNat = 2 by omega]
    unfold rLn
    rw [e0]
    exact rLn_2 e1 f2 f3 f4 f5)
  exact ⟨p, fun _ => rfl, ⟨(fun q h => by cases h), fun q h => (by cases h), (fun f h => by cases h), (aAllc ⟨_, rfl, (rF_b (r := 1538) (by decide) rfl).mpr q0⟩ (fun f h => by cases h))⟩, [], List.mem_cons_self, fun f h => (by cases h)⟩
theorem rw_rvLN3 {K : Nat → Nat} {n : Nat} {JX : (Nat → jcell) → Prop} : aGho (rF K n) fa_T K n JX ag_rvLN3 := by
  refine aGho_of ⟨rfl, rfl⟩ ?_
  intro p σ ρ hH hX hA hM0
  have hG := aAG_of hA.1 (fun i e v he hv => (hA.2 i e v he hv).1)
  clear hA
  obtain ⟨v0, v1, v2, v3, v4, v5, rfl, g0, g1, g2, g3, g4, g5⟩ := rA_6 hG
  clear hG
  obtain ⟨x0, rfl, b0, d0⟩ := rG_ref (by decide) g0
  obtain ⟨x1, rfl, b1, d1⟩ := rG_ref (by decide) g1
  obtain ⟨x2, rfl, b2, d2⟩ := aG_int g2
  dsimp only at b2 d2
  obtain ⟨x3, rfl, b3, d3⟩ := aG_int g3
  dsimp only at b3 d3
  obtain ⟨x4, rfl, b4, d4⟩ := aG_int g4
  dsimp only at b4 d4
  obtain ⟨x5, rfl, b5, d5⟩ := aG_int g5
  dsimp only at b5 d5
  obtain ⟨m1, m2, m3, m4⟩ := hM0
  obtain ⟨M, hM⟩ := rMe_ex hH b0 d0
  obtain ⟨a0, c0, fs0, w0, e1, s0, t0, e4⟩ := m1 (0, 28, 1) (List.mem_of_getElem? (i := 0) rfl)
  obtain rfl : x0 = a0 := Sum.inl.inj (Option.some.inj (Sum.inr.inj (Sum.inr.inj (Option.some.inj (show some (rR x0) = some _ from e1)))))
  obtain rfl : rR x1 = w0 := Option.some.inj (show some (rR x1) = some w0 from e4)
  clear e1 e4
  obtain ⟨a1, c1, fs1, w1, e1, s1, t1, e4⟩ := m1 (0, 27, 5) (List.mem_of_getElem? (i := 1) rfl)
  obtain rfl : x0 = a1 := Sum.inl.inj (Option.some.inj (Sum.inr.inj (Sum.inr.inj (Option.some.inj (show some (rR x0) = some _ from e1)))))
  obtain rfl : rI x5 = w1 := Option.some.inj (show some (rI x5) = some w1 from e4)
  clear e1 e4
  have f0 : rB K n p 184 [rR x1, rI x2] σ := by
    obtain ⟨w, e6, e7⟩ := m4 (2946, [1, 2]) (List.mem_of_getElem? (i := 0) rfl)
    obtain rfl : [rR x1, rI x2] = w := Option.some.inj (show some [rR x1, rI x2] = some w from e6)
    exact (rF_b (r := 2946) (by decide) rfl).mp e7
  have f0 := ro_184.mp f0
  have f1 : rB K n p 185 [rR x1, rI x3] σ := by
    obtain ⟨w, e6, e7⟩ := m4 (2962, [1, 3]) (List.mem_of_getElem? (i := 1) rfl)
    obtain rfl : [rR x1, rI x3] = w := Option.some.inj (show some [rR x1, rI x3] = some w from e6)
    exact (rF_b (r := 2962) (by decide) rfl).mp e7
  have f1 := ro_185.mp f1
  have f2 : rB K n p 186 [rR x1, rI x4] σ := by
    obtain ⟨w, e6, e7⟩ := m4 (2978, [1, 4]) (List.mem_of_getElem? (i := 2) rfl)
    obtain rfl : [rR x1, rI x4] = w := Option.some.inj (show some [rR x1, rI x4] = some w from e6)
    exact (rF_b (r := 2978) (by decide) rfl).mp e7
  have f2 := ro_186.mp f2
  have f3 : rB K n p 25 [rI x2] σ := by
    obtain ⟨w, e6, e7⟩ := m4 (401, [2]) (List.mem_of_getElem? (i := 3) rfl)
    obtain rfl : [rI x2] = w := Option.some.inj (show some [rI x2] = some w from e6)
    exact (rF_b (r := 401) (by decide) rfl).mp e7
  have f3 := ro_25.mp f3
  have f4 : rB K n (rSh rS1 p [rR x0, rI x2]) 24 [] σ := by
    obtain ⟨w, e6, e7⟩ := m4 (384, [0, 2]) (List.mem_of_getElem? (i := 4) rfl)
    obtain rfl : [rR x0, rI x2] = w := Option.some.inj (show some [rR x0, rI x2] = some w from e6)
    exact (rF_g (r := 384) (by decide)).mp e7
  have f4 := ro_24.mp f4
  have f5 : rB K n (rSh rS1 p [rR x0, rI x2]) 25 [rI x3] σ := by
    obtain ⟨w, e6, e7⟩ := m4 (401, [3, 0, 2]) (List.mem_of_getElem? (i := 5) rfl)
    obtain rfl : [rI x3, rR x0, rI x2] = w := Option.some.inj (show some [rI x3, rR x0, rI x2] = some w from e6)
    exact (rF_g (r := 401) (by decide)).mp e7
  have f5 := ro_25.mp f5
  have f6 : rB K n (rSh rS1 p [rR x0, rI x3, rR x0, rI x2]) 24 [] σ := by
    obtain ⟨w, e6, e7⟩ := m4 (384, [0, 3, 0, 2]) (List.mem_of_getElem? (i := 6) rfl)
    obtain rfl : [rR x0, rI x3, rR x0, rI x2] = w := Option.some.inj (show some [rR x0, rI x3, rR x0, rI x2] = some w from e6)
    exact (rF_g (r := 384) (by decide)).mp e7
  have f6 := ro_24.mp f6
  have f7 : rB K n (rSh rS1 p [rR x0, rI x3, rR x0, rI x2]) 25 [rI x4] σ := by
    obtain ⟨w, e6, e7⟩ := m4 (401, [4, 0, 3, 0, 2]) (List.mem_of_getElem? (i := 7) rfl)
    obtain rfl : [rI x4, rR x0, rI x3, rR x0, rI x2] = w := Option.some.inj (show some [rI x4, rR x0, rI x3, rR x0, rI x2] = some w from e6)
    exact (rF_g (r := 401) (by decide)).mp e7
  have f7 := ro_25.mp f7
  have f8 : rB K n (rSh rS1 p [rR x0, rI x4, rR x0, rI x3, rR x0, rI x2]) 24 [] σ := by
    obtain ⟨w, e6, e7⟩ := m4 (384, [0, 4, 0, 3, 0, 2]) (List.mem_of_getElem? (i := 8) rfl)
    obtain rfl : [rR x0, rI x4, rR x0, rI x3, rR x0, rI x2] = w := Option.some.inj (show some [rR x0, rI x4, rR x0, rI x3, rR x0, rI x2] = some w from e6)
    exact (rF_g (r := 384) (by decide)).mp e7
  have f8 := ro_24.mp f8
  clear m1 m2 m3 m4
  have q0 : rB K n p 96 [rR x1, rI x5] σ := ro_96.mpr (by
    obtain ⟨g0, h0, e0⟩ := f0
    have e0 : g0 0 = x2 := Int32.toInt_inj.mp e0
    obtain ⟨g1, h1, e1⟩ := f1
    obtain rfl := rRw_u h0 h1
    have e1 : g0 1 = x3 := Int32.toInt_inj.mp e1
    obtain ⟨g2, h2, e2⟩ := f2
    obtain rfl := rRw_u h0 h2
    have e2 : g0 2 = x4 := Int32.toInt_inj.mp e2
    refine ⟨g0, x0, Or.inl h0, ?_⟩
    rw [show x5.toInt.toNat = 3 by omega]
    unfold rLn
    rw [e0]
    exact rLn_3 e1 e2 f3 f4 f5 f6 f7 f8)
  exact ⟨p, fun _ => rfl, ⟨(fun q h => by cases h), fun q h => (by cases h), (fun f h => by cases h), (aAllc ⟨_, rfl, (rF_b (r := 1538) (by decide) rfl).mpr q0⟩ (fun f h => by cases h))⟩, [], List.mem_cons_self, fun f h => (by cases h)⟩
theorem rw_rvLN4 {K : Nat → Nat} {n : Nat} {JX : (Nat → jcell) → Prop} : aGho (rF K n) fa_T K n JX ag_rvLN4 := by
  refine aGho_of ⟨rfl, rfl⟩ ?_
  intro p σ ρ hH hX hA hM0
  have hG := aAG_of hA.1 (fun i e v he hv => (hA.2 i e v he hv).1)
  clear hA
  obtain ⟨v0, v1, v2, v3, v4, v5, v6, rfl, g0, g1, g2, g3, g4, g5, g6⟩ := rA_7 hG
  clear hG
  obtain ⟨x0, rfl, b0, d0⟩ := rG_ref (by decide) g0
  obtain ⟨x1, rfl, b1, d1⟩ := rG_ref (by decide) g1
  obtain ⟨x2, rfl, b2, d2⟩ := aG_int g2
  dsimp only at b2 d2
  obtain ⟨x3, rfl, b3, d3⟩ := aG_int g3
  dsimp only at b3 d3
  obtain ⟨x4, rfl, b4, d4⟩ := aG_int g4
  dsimp only at b4 d4
  obtain ⟨x5, rfl, b5, d5⟩ := aG_int g5
  dsimp only at b5 d5
  obtain ⟨x6, rfl, b6, d6⟩ := aG_int g6
  dsimp only at b6 d6
  obtain ⟨m1, m2, m3, m4⟩ := hM0
  obtain ⟨M, hM⟩ := rMe_ex hH b0 d0
  obtain ⟨a0, c0, fs0, w0, e1, s0, t0, e4⟩ := m1 (0, 28, 1) (List.mem_of_getElem? (i := 0) rfl)
  obtain rfl : x0 = a0 := Sum.inl.inj (Option.some.inj (Sum.inr.inj (Sum.inr.inj (Option.some.inj (show some (rR x0) = some _ from e1)))))
  obtain rfl : rR x1 = w0 := Option.some.inj (show some (rR x1) = some w0 from e4)
  clear e1 e4
  obtain ⟨a1, c1, fs1, w1, e1, s1, t1, e4⟩ := m1 (0, 27, 6) (List.mem_of_getElem? (i := 1) rfl)
  obtain rfl : x0 = a1 := Sum.inl.inj (Option.some.inj (Sum.inr.inj (Sum.inr.inj (Option.some.inj (show some (rR x0) = some _ from e1)))))
  obtain rfl : rI x6 = w1 := Option.some.inj (show some (rI x6) = some w1 from e4)
  clear e1 e4
  have f0 : rB K n p 184 [rR x1, rI x2] σ := by
    obtain ⟨w, e6, e7⟩ := m4 (2946, [1, 2]) (List.mem_of_getElem? (i := 0) rfl)
    obtain rfl : [rR x1, rI x2] = w := Option.some.inj (show some [rR x1, rI x2] = some w from e6)
    exact (rF_b (r := 2946) (by decide) rfl).mp e7
  have f0 := ro_184.mp f0
  have f1 : rB K n p 185 [rR x1, rI x3] σ := by
    obtain ⟨w, e6, e7⟩ := m4 (2962, [1, 3]) (List.mem_of_getElem? (i := 1) rfl)
    obtain rfl : [rR x1, rI x3] = w := Option.some.inj (show some [rR x1, rI x3] = some w from e6)
    exact (rF_b (r := 2962) (by decide) rfl).mp e7
  have f1 := ro_185.mp f1
  have f2 : rB K n p 186 [rR x1, rI x4] σ := by
    obtain ⟨w, e6, e7⟩ := m4 (2978, [1, 4]) (List.mem_of_getElem? (i := 2) rfl)
    obtain rfl : [rR x1, rI x4] = w := Option.some.inj (show some [rR x1, rI x4] = some w from e6)
    exact (rF_b (r := 2978) (by decide) rfl).mp e7
  have f2 := ro_186.mp f2
  have f3 : rB K n p 187 [rR x1, rI x5] σ := by
    obtain ⟨w, e6, e7⟩ := m4 (2994, [1, 5]) (List.mem_of_getElem? (i := 3) rfl)
    obtain rfl : [rR x1, rI x5] = w := Option.some.inj (show some [rR x1, rI x5] = some w from e6)
    exact (rF_b (r := 2994) (by decide) rfl).mp e7
  have f3 := ro_187.mp f3
  have f4 : rB K n p 25 [rI x2] σ := by
    obtain ⟨w, e6, e7⟩ := m4 (401, [2]) (List.mem_of_getElem? (i := 4) rfl)
    obtain rfl : [rI x2] = w := Option.some.inj (show some [rI x2] = some w from e6)
    exact (rF_b (r := 401) (by decide) rfl).mp e7
  have f4 := ro_25.mp f4
  have f5 : rB K n (rSh rS1 p [rR x0, rI x2]) 24 [] σ := by
    obtain ⟨w, e6, e7⟩ := m4 (384, [0, 2]) (List.mem_of_getElem? (i := 5) rfl)
    obtain rfl : [rR x0, rI x2] = w := Option.some.inj (show some [rR x0, rI x2] = some w from e6)
    exact (rF_g (r := 384) (by decide)).mp e7
  have f5 := ro_24.mp f5
  have f6 : rB K n (rSh rS1 p [rR x0, rI x2]) 25 [rI x3] σ := by
    obtain ⟨w, e6, e7⟩ := m4 (401, [3, 0, 2]) (List.mem_of_getElem? (i := 6) rfl)
    obtain rfl : [rI x3, rR x0, rI x2] = w := Option.some.inj (show some [rI x3, rR x0, rI x2] = some w from e6)
    exact (rF_g (r := 401) (by decide)).mp e7
  have f6 := ro_25.mp f6
  have f7 : rB K n (rSh rS1 p [rR x0, rI x3, rR x0, rI x2]) 24 [] σ := by
    obtain ⟨w, e6, e7⟩ := m4 (384, [0, 3, 0, 2]) (List.mem_of_getElem? (i := 7) rfl)
    obtain rfl : [rR x0, rI x3, rR x0, rI x2] = w := Option.some.inj (show some [rR x0, rI x3, rR x0, rI x2] = some w from e6)
    exact (rF_g (r := 384) (by decide)).mp e7
  have f7 := ro_24.mp f7
  have f8 : rB K n (rSh rS1 p [rR x0, rI x3, rR x0, rI x2]) 25 [rI x4] σ := by
    obtain ⟨w, e6, e7⟩ := m4 (401, [4, 0, 3, 0, 2]) (List.mem_of_getElem? (i := 8) rfl)
    obtain rfl : [rI x4, rR x0, rI x3, rR x0, rI x2] = w := Option.some.inj (show some [rI x4, rR x0, rI x3, rR x0, rI x2] = some w from e6)
    exact (rF_g (r := 401) (by decide)).mp e7
  have f8 := ro_25.mp f8
  have f9 : rB K n (rSh rS1 p [rR x0, rI x4, rR x0, rI x3, rR x0, rI x2]) 24 [] σ := by
    obtain ⟨w, e6, e7⟩ := m4 (384, [0, 4, 0, 3, 0, 2]) (List.mem_of_getElem? (i := 9) rfl)
    obtain rfl : [rR x0, rI x4, rR x0, rI x3, rR x0, rI x2] = w := Option.some.inj (show some [rR x0, rI x4, rR x0, rI x3, rR x0, rI x2] = some w from e6)
    exact (rF_g (r := 384) (by decide)).mp e7
  have f9 := ro_24.mp f9
  have f10 : rB K n (rSh rS1 p [rR x0, rI x4, rR x0, rI x3, rR x0, rI x2]) 25 [rI x5] σ := by
    obtain ⟨w, e6, e7⟩ := m4 (401, [5, 0, 4, 0, 3, 0, 2]) (List.mem_of_getElem? (i := 10) rfl)
    obtain rfl : [rI x5, rR x0, rI x4, rR x0, rI x3, rR x0, rI x2] = w := Option.some.inj (show some [rI x5, rR x0, rI x4, rR x0, rI x3, rR x0, rI x2] = some w from e6)
    exact (rF_g (r := 401) (by decide)).mp e7
  have f10 := ro_25.mp f10
  have f11 : rB K n (rSh rS1 p [rR x0, rI x5, rR x0, rI x4, rR x0, rI x3, rR x0, rI x2]) 24 [] σ := by
    obtain ⟨w, e6, e7⟩ := m4 (384, [0, 5, 0, 4, 0, 3, 0, 2]) (List.mem_of_getElem? (i := 11) rfl)
    obtain rfl : [rR x0, rI x5, rR x0, rI x4, rR x0, rI x3, rR x0, rI x2] = w := Option.some.inj (show some [rR x0, rI x5, rR x0, rI x4, rR x0, rI x3, rR x0, rI x2] = some w from e6)
    exact (rF_g (r := 384) (by decide)).mp e7
  have f11 := ro_24.mp f11
  clear m1 m2 m3 m4
  have q0 : rB K n p 96 [rR x1, rI x6] σ := ro_96.mpr (by
    obtain ⟨g0, h0, e0⟩ := f0
    have e0 : g0 0 = x2 := Int32.toInt_inj.mp e0
    obtain ⟨g1, h1, e1⟩ := f1
    obtain rfl := rRw_u h0 h1
    have e1 : g0 1 = x3 := Int32.toInt_inj.mp e1
    obtain ⟨g2, h2, e2⟩ := f2
    obtain rfl := rRw_u h0 h2
    have e2 : g0 2 = x4 := Int32.toInt_inj.mp e2
    obtain ⟨g3, h3, e3⟩ := f3
    obtain rfl := rRw_u h0 h3
    have e3 : g0 3 = x5 := Int32.toInt_inj.mp e3
    refine ⟨g0, x0, Or.inl h0, ?_⟩
    rw [show x6.toInt.toNat = 4 by omega]
    unfold rLn
    rw [e0]
    exact rLn_4 e1 e2 e3 f4 f5 f6 f7 f8 f9 f10 f11)
  exact ⟨p, fun _ => rfl, ⟨(fun q h => by cases h), fun q h => (by cases h), (fun f h => by cases h), (aAllc ⟨_, rfl, (rF_b (r := 1538) (by decide) rfl).mpr q0⟩ (fun f h => by cases h))⟩, [], List.mem_cons_self, fun f h => (by cases h)⟩
theorem rw_rvCLo {K : Nat → Nat} {n : Nat} {JX : (Nat → jcell) → Prop} : aGho (rF K n) fa_T K n JX ag_rvCLo := by
  refine aGho_of ⟨rfl, rfl⟩ ?_
  intro p σ ρ hH hX hA hM0
  have hG := aAG_of hA.1 (fun i e v he hv => (hA.2 i e v he hv).1)
  clear hA
  obtain ⟨v0, v1, v2, rfl, g0, g1, g2⟩ := rA_3 hG
  clear hG
  obtain ⟨x0, rfl, b0, d0⟩ := rG_ref (by decide) g0
  obtain ⟨x1, rfl, b1, d1⟩ := aG_int g1
  dsimp only at b1 d1
  obtain ⟨x2, rfl, b2, d2⟩ := aG_int g2
  dsimp only at b2 d2
  obtain ⟨m1, m2, m3, m4⟩ := hM0
  obtain ⟨M, hM⟩ := rMe_ex hH b0 d0
  have f0 : rB K n p 76 [rR x0, rI x1, rI x2] σ := by
    obtain ⟨w, e6, e7⟩ := m4 (1219, [0, 1, 2]) (List.mem_of_getElem? (i := 0) rfl)
    obtain rfl : [rR x0, rI x1, rI x2] = w := Option.some.inj (show some [rR x0, rI x1, rI x2] = some w from e6)
    exact (rF_b (r := 1219) (by decide) rfl).mp e7
  have f0 := ro_76.mp f0
  have f1 : rB K n p 168 [rR x0, rI x1, rI x2] σ := by
    obtain ⟨w, e6, e7⟩ := m4 (2691, [0, 1, 2]) (List.mem_of_getElem? (i := 1) rfl)
    obtain rfl : [rR x0, rI x1, rI x2] = w := Option.some.inj (show some [rR x0, rI x1, rI x2] = some w from e6)
    exact (rF_b (r := 2691) (by decide) rfl).mp e7
  have f1 := ro_168.mp f1
  clear m1 m2 m3 m4
  have q0 : rB K n p 49 [rR x0] σ := ro_49.mpr (by
    rw [show x1.toInt = 0 by omega] at f0 f1
    exact ⟨f0.1, x2.toInt, by omega, f0.2.1, f1, f0.2.2⟩)
  exact ⟨p, fun _ => rfl, ⟨(fun q h => by cases h), fun q h => (by cases h), (fun f h => by cases h), (aAllc ⟨_, rfl, (rF_b (r := 785) (by decide) rfl).mpr q0⟩ (fun f h => by cases h))⟩, [], List.mem_cons_self, fun f h => (by cases h)⟩
theorem rw_rvCVz {K : Nat → Nat} {n : Nat} {JX : (Nat → jcell) → Prop} : aGho (rF K n) fa_T K n JX ag_rvCVz := by
  refine aGho_of ⟨rfl, rfl⟩ ?_
  intro p σ ρ hH hX hA hM0
  have hG := aAG_of hA.1 (fun i e v he hv => (hA.2 i e v he hv).1)
  clear hA
  obtain ⟨v0, v1, v2, rfl, g0, g1, g2⟩ := rA_3 hG
  clear hG
  obtain ⟨x0, rfl, b0, d0⟩ := rG_ref (by decide) g0
  obtain ⟨x1, rfl, b1, d1⟩ := rG_ref (by decide) g1
  obtain ⟨x2, rfl, b2, d2⟩ := aG_int g2
  dsimp only at b2 d2
  obtain ⟨m1, m2, m3, m4⟩ := hM0
  obtain ⟨M, hM⟩ := rMe_ex hH b0 d0
  obtain ⟨a0, c0, fs0, w0, e1, s0, t0, e4⟩ := m1 (0, 22, 1) (List.mem_of_getElem? (i := 0) rfl)
  obtain rfl : x0 = a0 := Sum.inl.inj (Option.some.inj (Sum.inr.inj (Sum.inr.inj (Option.some.inj (show some (rR x0) = some _ from e1)))))
  obtain rfl : rR x1 = w0 := Option.some.inj (show some (rR x1) = some w0 from e4)
  clear e1 e4
  obtain ⟨a, mc0, ty0, gc0, ic0, e1, sc0, jc0, e4, e5⟩ := m2 (1, ([], 0), 2) (List.mem_of_getElem? (i := 0) rfl)
  obtain rfl : x1 = a := Sum.inl.inj (Option.some.inj (Sum.inr.inj (Sum.inr.inj (Option.some.inj (show some (rR x1) = some _ from e1)))))
  obtain ⟨gc0, rfl⟩ : ∃ g, gc0 = .inl g := by
    rcases gc0 with g | g
    · exact ⟨g, rfl⟩
    · exact absurd (show some (rI x2) = some (.inr (.inl (g ic0))) from e5) (fun h => by cases h)
  have sc0 : σ x1 = .inl (ty0, mc0, .inl gc0) := sc0
  have ec0 : x2 = gc0 ic0 := Sum.inl.inj (Option.some.inj (show some (rI x2) = some _ from e5))
  have kc0 : (ic0 : Int) = 0 + 0 := by
    obtain ⟨z, e6, e7⟩ := e4
    obtain rfl : 0 = z := Option.some.inj (show some 0 = some z from e6)
    exact e7
  clear e1 e4 e5
  have f0 : rB K n p 49 [rR x0] σ := by
    obtain ⟨w, e6, e7⟩ := m4 (785, [0]) (List.mem_of_getElem? (i := 0) rfl)
    obtain rfl : [rR x0] = w := Option.some.inj (show some [rR x0] = some w from e6)
    exact (rF_b (r := 785) (by decide) rfl).mp e7
  have f0 := ro_49.mp f0
  clear m1 m2 m3 m4
  have r0 : 0 ≤ (1 * x2.toInt + 0) + -1 := by
    obtain ⟨hp, c, h0, h1, h2, h3⟩ := f0
    obtain ⟨h4, g, h5, e⟩ := h2
    have e1 := rRo_c (i := ic0) h5 s0 t0 sc0 ec0
    rw [show ic0 = (0 : Int).toNat by omega, e] at e1
    omega
  have q0 : rB K n p 98 [rR x0, rI x2] σ := ro_98.mpr (by
    obtain ⟨hp, c, h0, h1, h2, h3⟩ := f0
    obtain ⟨h4, g, h5, e⟩ := h2
    have e1 := rRo_c (i := ic0) h5 s0 t0 sc0 ec0
    rw [show ic0 = (0 : Int).toNat by omega, e] at e1
    subst e1
    exact ⟨hp, h1, ⟨h4, g, h5, e⟩, h3⟩)
  exact ⟨p, fun _ => rfl, ⟨(fun q h => by cases h), fun q h => (by cases h), (aAllc ⟨_, rfl, r0⟩ (fun f h => by cases h)), (aAllc ⟨_, rfl, (rF_b (r := 1570) (by decide) rfl).mpr q0⟩ (fun f h => by cases h))⟩, [], List.mem_cons_self, fun f h => (by cases h)⟩
theorem rw_rvLd0 {K : Nat → Nat} {n : Nat} {JX : (Nat → jcell) → Prop} : aGho (rF K n) fa_T K n JX ag_rvLd0 := by
  refine aGho_of ⟨rfl, rfl⟩ ?_
  intro p σ ρ hH hX hA hM0
  have hG := aAG_of hA.1 (fun i e v he hv => (hA.2 i e v he hv).1)
  clear hA
  obtain ⟨v0, v1, v2, v3, v4, rfl, g0, g1, g2, g3, g4⟩ := rA_5 hG
  clear hG
  obtain ⟨x0, rfl, b0, d0⟩ := rG_ref (by decide) g0
  obtain ⟨x1, rfl, b1, d1⟩ := rG_ref (by decide) g1
  obtain ⟨x2, rfl, b2, d2⟩ := aG_int g2
  dsimp only at b2 d2
  obtain ⟨x3, rfl, b3, d3⟩ := aG_int g3
  dsimp only at b3 d3
  obtain ⟨x4, rfl, b4, d4⟩ := aG_int g4
  dsimp only at b4 d4
  obtain ⟨m1, m2, m3, m4⟩ := hM0
  obtain ⟨M, hM⟩ := rMe_ex hH b0 d0
  obtain ⟨a0, c0, fs0, w0, e1, s0, t0, e4⟩ := m1 (0, 21, 1) (List.mem_of_getElem? (i := 0) rfl)
  obtain rfl : x0 = a0 := Sum.inl.inj (Option.some.inj (Sum.inr.inj (Sum.inr.inj (Option.some.inj (show some (rR x0) = some _ from e1)))))
  obtain rfl : rR x1 = w0 := Option.some.inj (show some (rR x1) = some w0 from e4)
  clear e1 e4
  obtain ⟨a, mc0, ty0, gc0, ic0, e1, sc0, jc0, e4, e5⟩ := m2 (1, ([(3, 1)], 0), 4) (List.mem_of_getElem? (i := 0) rfl)
  obtain rfl : x1 = a := Sum.inl.inj (Option.some.inj (Sum.inr.inj (Sum.inr.inj (Option.some.inj (show some (rR x1) = some _ from e1)))))
  obtain ⟨gc0, rfl⟩ : ∃ g, gc0 = .inl g := by
    rcases gc0 with g | g
    · exact ⟨g, rfl⟩
    · exact absurd (show some (rI x4) = some (.inr (.inl (g ic0))) from e5) (fun h => by cases h)
  have sc0 : σ x1 = .inl (ty0, mc0, .inl gc0) := sc0
  have ec0 : x4 = gc0 ic0 := Sum.inl.inj (Option.some.inj (show some (rI x4) = some _ from e5))
  have kc0 : (ic0 : Int) = (1 * x3.toInt + 0) + 0 := by
    obtain ⟨z, e6, e7⟩ := e4
    obtain rfl : (1 * x3.toInt + 0) = z := Option.some.inj (show some (1 * x3.toInt + 0) = some z from e6)
    exact e7
  clear e1 e4 e5
  have l0 : 0 ≤ (1 * x2.toInt + (-1 * x3.toInt + 0)) + -1 := by
    obtain ⟨z, e6, e7⟩ := m3 ([(2, 1), (3, -1)], -1) (List.mem_of_getElem? (i := 0) rfl)
    obtain rfl : (1 * x2.toInt + (-1 * x3.toInt + 0)) = z := Option.some.inj (show some (1 * x2.toInt + (-1 * x3.toInt + 0)) = some z from e6)
    exact e7
  have f0 : rB K n p 98 [rR x0, rI x2] σ := by
    obtain ⟨w, e6, e7⟩ := m4 (1570, [0, 2]) (List.mem_of_getElem? (i := 0) rfl)
    obtain rfl : [rR x0, rI x2] = w := Option.some.inj (show some [rR x0, rI x2] = some w from e6)
    exact (rF_b (r := 1570) (by decide) rfl).mp e7
  have f0 := ro_98.mp f0
  clear m1 m2 m3 m4
  have q0 : rB K n p 25 [rI x4] σ := ro_25.mpr (by
    obtain ⟨hp, h1, h2, g, h3, h4⟩ := f0
    have e1 := rRo_c (i := ic0) h3 s0 t0 sc0 ec0
    have h5 := h4 (by omega) x3.toInt b3 (by omega)
    rw [show (2048 * 0 + x3.toInt).toNat = ic0 by omega, e1] at h5
    exact h5.1)
  have q1 : rB K n (rSh rS1 p [rR x0, rI x4]) 24 [] σ := ro_24.mpr (by
    obtain ⟨hp, h1, h2, g, h3, h4⟩ := f0
    have e1 := rRo_c (i := ic0) h3 s0 t0 sc0 ec0
    have h5 := h4 (by omega) x3.toInt b3 (by omega)
    rw [show (2048 * 0 + x3.toInt).toNat = ic0 by omega, e1] at h5
    rw [rSh_mk hp]
    exact h5.2)
  exact ⟨p, fun _ => rfl, ⟨(fun q h => by cases h), fun q h => (by cases h), (fun f h => by cases h), (aAllc ⟨_, rfl, (rF_b (r := 401) (by decide) rfl).mpr q0⟩ (aAllc ⟨_, rfl, (rF_g (r := 384) (by decide)).mpr q1⟩ (fun f h => by cases h)))⟩, [], List.mem_cons_self, fun f h => (by cases h)⟩
theorem rw_rvBFp {K : Nat → Nat} {n : Nat} {JX : (Nat → jcell) → Prop} : aGho (rF K n) fa_T K n JX ag_rvBFp := by
  refine aGho_of ⟨rfl, rfl⟩ ?_
  intro p σ ρ hH hX hA hM0
  have hG := aAG_of hA.1 (fun i e v he hv => (hA.2 i e v he hv).1)
  clear hA
  obtain ⟨v0, v1, rfl, g0, g1⟩ := rA_2 hG
  clear hG
  obtain ⟨x0, rfl, b0, d0⟩ := rG_ref (by decide) g0
  obtain ⟨x1, rfl, b1, d1⟩ := aG_int g1
  dsimp only at b1 d1
  obtain ⟨m1, m2, m3, m4⟩ := hM0
  obtain ⟨M, hM⟩ := rMe_ex hH b0 d0
  have f0 : rB K n p 93 [rI x1] σ := by
    obtain ⟨w, e6, e7⟩ := m4 (1489, [1]) (List.mem_of_getElem? (i := 0) rfl)
    obtain rfl : [rI x1] = w := Option.some.inj (show some [rI x1] = some w from e6)
    exact (rF_b (r := 1489) (by decide) rfl).mp e7
  have f0 := ro_93.mp f0
  clear m1 m2 m3 m4
  have q0 : rB K n p 94 [rR x0] (jup σ x0 (jstf (σ x0) 25 (rI x1))) := ro_94.mpr (by
    obtain ⟨w, o⟩ := rOb_ex (k := 88) (f := 25) hH b0 d0 rfl (by decide)
    exact ⟨x1, rOb_ss o, f0.1, f0.2⟩)
  exact ⟨p, fun _ => rfl, ⟨(fun q h => by cases h), fun q h => (by cases h), (fun f h => by cases h), (aAllc ⟨_, rfl, rF_pf (r := 1505) (f := 25) (by decide) (by decide) q0⟩ (fun f h => by cases h))⟩, [], List.mem_cons_self, fun f h => (by cases h)⟩
theorem rw_rvHLn {K : Nat → Nat} {n : Nat} {JX : (Nat → jcell) → Prop} : aGho (rF K n) fa_T K n JX ag_rvHLn := by
  refine aGho_of ⟨rfl, rfl⟩ ?_
  intro p σ ρ hH hX hA hM0
  have hG := aAG_of hA.1 (fun i e v he hv => (hA.2 i e v he hv).1)
  clear hA
  obtain ⟨v0, rfl, g0⟩ := rA_1 hG
  clear hG
  obtain ⟨x0, rfl, b0, d0⟩ := aG_int g0
  dsimp only at b0 d0
  obtain ⟨m1, m2, m3, m4⟩ := hM0
  have f0 : rB K n p 78 [rI x0] σ := by
    obtain ⟨w, e6, e7⟩ := m4 (1249, [0]) (List.mem_of_getElem? (i := 0) rfl)
    obtain rfl : [rI x0] = w := Option.some.inj (show some [rI x0] = some w from e6)
    exact (rF_b (r := 1249) (by decide) rfl).mp e7
  have f0 := ro_78.mp f0
  have f1 : rB K n p 95 [] σ := by
    obtain ⟨w, e6, e7⟩ := m4 (1520, []) (List.mem_of_getElem? (i := 1) rfl)
    obtain rfl : [] = w := Option.some.inj (show some [] = some w from e6)
    exact (rF_b (r := 1520) (by decide) rfl).mp e7
  have f1 := ro_95.mp f1
  clear m1 m2 m3 m4
  have r0 : 0 ≤ (1 * x0.toInt + 0) + -1 := by
    by_cases cz : x0.toInt = 0
    · obtain ⟨m, h1, h2⟩ := f1
      exact absurd h2 (f0 cz m h1)
    · omega
  exact ⟨p, fun _ => rfl, ⟨(fun q h => by cases h), fun q h => (by cases h), (aAllc ⟨_, rfl, r0⟩ (fun f h => by cases h)), (fun f h => by cases h)⟩, [], List.mem_cons_self, fun f h => (by cases h)⟩
theorem rw_rvLF1 {K : Nat → Nat} {n : Nat} {JX : (Nat → jcell) → Prop} : aGho (rF K n) fa_T K n JX ag_rvLF1 := by
  refine aGho_of ⟨rfl, rfl⟩ ?_
  intro p σ ρ hH hX hA hM0
  have hG := aAG_of hA.1 (fun i e v he hv => (hA.2 i e v he hv).1)
  clear hA
  obtain ⟨v0, v1, v2, v3, rfl, g0, g1, g2, g3⟩ := rA_4 hG
  clear hG
  obtain ⟨x0, rfl, b0, d0⟩ := rG_ref (by decide) g0
  obtain ⟨x1, rfl, b1, d1⟩ := aG_int g1
  dsimp only at b1 d1
  obtain ⟨x2, rfl, b2, d2⟩ := aG_int g2
  dsimp only at b2 d2
  obtain ⟨x3, rfl, b3, d3⟩ := aG_int g3
  dsimp only at b3 d3
  obtain ⟨m1, m2, m3, m4⟩ := hM0
  obtain ⟨M, hM⟩ := rMe_ex hH b0 d0
  have l0 : 0 ≤ (1 * x2.toInt + (-1 * x1.toInt + 0)) + -1 := by
    obtain ⟨z, e6, e7⟩ := m3 ([(2, 1), (1, -1)], -1) (List.mem_of_getElem? (i := 0) rfl)
    obtain rfl : (1 * x2.toInt + (-1 * x1.toInt + 0)) = z := Option.some.inj (show some (1 * x2.toInt + (-1 * x1.toInt + 0)) = some z from e6)
    exact e7
  have l1 : 0 ≤ (-1 * x2.toInt + (1 * x1.toInt + 0)) + 1 := by
    obtain ⟨z, e6, e7⟩ := m3 ([(2, -1), (1, 1)], 1) (List.mem_of_getElem? (i := 1) rfl)
    obtain rfl : (-1 * x2.toInt + (1 * x1.toInt + 0)) = z := Option.some.inj (show some (-1 * x2.toInt + (1 * x1.toInt + 0)) = some z from e6)
    exact e7
  have f0 : rB K n p 76 [rR x0, rI x2, rI x3] σ := by
    obtain ⟨w, e6, e7⟩ := m4 (1219, [0, 2, 3]) (List.mem_of_getElem? (i := 0) rfl)
    obtain rfl : [rR x0, rI x2, rI x3] = w := Option.some.inj (show some [rR x0, rI x2, rI x3] = some w from e6)
    exact (rF_b (r := 1219) (by decide) rfl).mp e7
  have f0 := ro_76.mp f0
  clear m1 m2 m3 m4
  have q0 : rB K n p 77 [rR x0, rI x1, rI x3, rI x3] σ := ro_77_4.mpr (by
    rw [show x2.toInt = x1.toInt + 1 by omega] at f0
    exact f0)
  exact ⟨p, fun _ => rfl, ⟨(fun q h => by cases h), fun q h => (by cases h), (fun f h => by cases h), (aAllc ⟨_, rfl, (rF_b (r := 1236) (by decide) rfl).mpr q0⟩ (fun f h => by cases h))⟩, [], List.mem_cons_self, fun f h => (by cases h)⟩
theorem rw_rvLd2 {K : Nat → Nat} {n : Nat} {JX : (Nat → jcell) → Prop} : aGho (rF K n) fa_T K n JX ag_rvLd2 := by
  refine aGho_of ⟨rfl, rfl⟩ ?_
  intro p σ ρ hH hX hA hM0
  have hG := aAG_of hA.1 (fun i e v he hv => (hA.2 i e v he hv).1)
  clear hA
  obtain ⟨v0, v1, v2, v3, v4, v5, rfl, g0, g1, g2, g3, g4, g5⟩ := rA_6 hG
  clear hG
  obtain ⟨x0, rfl, b0, d0⟩ := rG_ref (by decide) g0
  obtain ⟨x1, rfl, b1, d1⟩ := rG_ref (by decide) g1
  obtain ⟨x2, rfl, b2, d2⟩ := aG_int g2
  dsimp only at b2 d2
  obtain ⟨x3, rfl, b3, d3⟩ := aG_int g3
  dsimp only at b3 d3
  obtain ⟨x4, rfl, b4, d4⟩ := aG_int g4
  dsimp only at b4 d4
  obtain ⟨x5, rfl, b5, d5⟩ := aG_int g5
  dsimp only at b5 d5
  obtain ⟨m1, m2, m3, m4⟩ := hM0
  obtain ⟨M, hM⟩ := rMe_ex hH b0 d0
  obtain ⟨a0, c0, fs0, w0, e1, s0, t0, e4⟩ := m1 (0, 21, 1) (List.mem_of_getElem? (i := 0) rfl)
  obtain rfl : x0 = a0 := Sum.inl.inj (Option.some.inj (Sum.inr.inj (Sum.inr.inj (Option.some.inj (show some (rR x0) = some _ from e1)))))
  obtain rfl : rR x1 = w0 := Option.some.inj (show some (rR x1) = some w0 from e4)
  clear e1 e4
  obtain ⟨a, mc0, ty0, gc0, ic0, e1, sc0, jc0, e4, e5⟩ := m2 (1, ([(2, 2048), (4, 1)], 2048), 5) (List.mem_of_getElem? (i := 0) rfl)
  obtain rfl : x1 = a := Sum.inl.inj (Option.some.inj (Sum.inr.inj (Sum.inr.inj (Option.some.inj (show some (rR x1) = some _ from e1)))))
  obtain ⟨gc0, rfl⟩ : ∃ g, gc0 = .inl g := by
    rcases gc0 with g | g
    · exact ⟨g, rfl⟩
    · exact absurd (show some (rI x5) = some (.inr (.inl (g ic0))) from e5) (fun h => by cases h)
  have sc0 : σ x1 = .inl (ty0, mc0, .inl gc0) := sc0
  have ec0 : x5 = gc0 ic0 := Sum.inl.inj (Option.some.inj (show some (rI x5) = some _ from e5))
  have kc0 : (ic0 : Int) = (2048 * x2.toInt + (1 * x4.toInt + 0)) + 2048 := by
    obtain ⟨z, e6, e7⟩ := e4
    obtain rfl : (2048 * x2.toInt + (1 * x4.toInt + 0)) = z := Option.some.inj (show some (2048 * x2.toInt + (1 * x4.toInt + 0)) = some z from e6)
    exact e7
  clear e1 e4 e5
  have l0 : 0 ≤ (1 * x3.toInt + (-1 * x4.toInt + 0)) + -1 := by
    obtain ⟨z, e6, e7⟩ := m3 ([(3, 1), (4, -1)], -1) (List.mem_of_getElem? (i := 0) rfl)
    obtain rfl : (1 * x3.toInt + (-1 * x4.toInt + 0)) = z := Option.some.inj (show some (1 * x3.toInt + (-1 * x4.toInt + 0)) = some z from e6)
    exact e7
  have f0 : rB K n p 77 [rR x0, rI x2, rI x3, rI x3] σ := by
    obtain ⟨w, e6, e7⟩ := m4 (1236, [0, 2, 3, 3]) (List.mem_of_getElem? (i := 0) rfl)
    obtain rfl : [rR x0, rI x2, rI x3, rI x3] = w := Option.some.inj (show some [rR x0, rI x2, rI x3, rI x3] = some w from e6)
    exact (rF_b (r := 1236) (by decide) rfl).mp e7
  have f0 := ro_77_4.mp f0
  clear m1 m2 m3 m4
  have q0 : rB K n p 25 [rI x5] σ := ro_25.mpr (by
    obtain ⟨hp, h1, g, h3, h4⟩ := f0
    have e1 := rRo_c (i := ic0) h3 s0 t0 sc0 ec0
    have h5 := h4 (by omega) x4.toInt b4 (by omega)
    rw [show (2048 * (x2.toInt + 1) + x4.toInt).toNat = ic0 by omega, e1] at h5
    exact h5.1)
  have q1 : rB K n (rSh rS1 p [rR x0, rI x5]) 24 [] σ := ro_24.mpr (by
    obtain ⟨hp, h1, g, h3, h4⟩ := f0
    have e1 := rRo_c (i := ic0) h3 s0 t0 sc0 ec0
    have h5 := h4 (by omega) x4.toInt b4 (by omega)
    rw [show (2048 * (x2.toInt + 1) + x4.toInt).toNat = ic0 by omega, e1] at h5
    rw [rSh_mk hp]
    exact h5.2)
  exact ⟨p, fun _ => rfl, ⟨(fun q h => by cases h), fun q h => (by cases h), (fun f h => by cases h), (aAllc ⟨_, rfl, (rF_b (r := 401) (by decide) rfl).mpr q0⟩ (aAllc ⟨_, rfl, (rF_g (r := 384) (by decide)).mpr q1⟩ (fun f h => by cases h)))⟩, [], List.mem_cons_self, fun f h => (by cases h)⟩
theorem rw_rvLFz {K : Nat → Nat} {n : Nat} {JX : (Nat → jcell) → Prop} : aGho (rF K n) fa_T K n JX ag_rvLFz := by
  refine aGho_of ⟨rfl, rfl⟩ ?_
  intro p σ ρ hH hX hA hM0
  have hG := aAG_of hA.1 (fun i e v he hv => (hA.2 i e v he hv).1)
  clear hA
  obtain ⟨v0, v1, v2, rfl, g0, g1, g2⟩ := rA_3 hG
  clear hG
  obtain ⟨x0, rfl, b0, d0⟩ := rG_ref (by decide) g0
  obtain ⟨x1, rfl, b1, d1⟩ := aG_int g1
  dsimp only at b1 d1
  obtain ⟨x2, rfl, b2, d2⟩ := aG_int g2
  dsimp only at b2 d2
  obtain ⟨m1, m2, m3, m4⟩ := hM0
  obtain ⟨M, hM⟩ := rMe_ex hH b0 d0
  have f0 : rB K n p 76 [rR x0, rI x1, rI x2] σ := by
    obtain ⟨w, e6, e7⟩ := m4 (1219, [0, 1, 2]) (List.mem_of_getElem? (i := 0) rfl)
    obtain rfl : [rR x0, rI x1, rI x2] = w := Option.some.inj (show some [rR x0, rI x1, rI x2] = some w from e6)
    exact (rF_b (r := 1219) (by decide) rfl).mp e7
  have f0 := ro_76.mp f0
  clear m1 m2 m3 m4
  have q0 : rB K n p 99 [rR x0, rI x2] σ := ro_99.mpr (by
    rw [show x1.toInt = 0 by omega] at f0
    exact f0)
  exact ⟨p, fun _ => rfl, ⟨(fun q h => by cases h), fun q h => (by cases h), (fun f h => by cases h), (aAllc ⟨_, rfl, (rF_b (r := 1586) (by decide) rfl).mpr q0⟩ (fun f h => by cases h))⟩, [], List.mem_cons_self, fun f h => (by cases h)⟩
theorem rw_rvLdz {K : Nat → Nat} {n : Nat} {JX : (Nat → jcell) → Prop} : aGho (rF K n) fa_T K n JX ag_rvLdz := by
  refine aGho_of ⟨rfl, rfl⟩ ?_
  intro p σ ρ hH hX hA hM0
  have hG := aAG_of hA.1 (fun i e v he hv => (hA.2 i e v he hv).1)
  clear hA
  obtain ⟨v0, v1, v2, v3, v4, rfl, g0, g1, g2, g3, g4⟩ := rA_5 hG
  clear hG
  obtain ⟨x0, rfl, b0, d0⟩ := rG_ref (by decide) g0
  obtain ⟨x1, rfl, b1, d1⟩ := rG_ref (by decide) g1
  obtain ⟨x2, rfl, b2, d2⟩ := aG_int g2
  dsimp only at b2 d2
  obtain ⟨x3, rfl, b3, d3⟩ := aG_int g3
  dsimp only at b3 d3
  obtain ⟨x4, rfl, b4, d4⟩ := aG_int g4
  dsimp only at b4 d4
  obtain ⟨m1, m2, m3, m4⟩ := hM0
  obtain ⟨M, hM⟩ := rMe_ex hH b0 d0
  obtain ⟨a0, c0, fs0, w0, e1, s0, t0, e4⟩ := m1 (0, 21, 1) (List.mem_of_getElem? (i := 0) rfl)
  obtain rfl : x0 = a0 := Sum.inl.inj (Option.some.inj (Sum.inr.inj (Sum.inr.inj (Option.some.inj (show some (rR x0) = some _ from e1)))))
  obtain rfl : rR x1 = w0 := Option.some.inj (show some (rR x1) = some w0 from e4)
  clear e1 e4
  obtain ⟨a, mc0, ty0, gc0, ic0, e1, sc0, jc0, e4, e5⟩ := m2 (1, ([(3, 1)], 0), 4) (List.mem_of_getElem? (i := 0) rfl)
  obtain rfl : x1 = a := Sum.inl.inj (Option.some.inj (Sum.inr.inj (Sum.inr.inj (Option.some.inj (show some (rR x1) = some _ from e1)))))
  obtain ⟨gc0, rfl⟩ : ∃ g, gc0 = .inl g := by
    rcases gc0 with g | g
    · exact ⟨g, rfl⟩
    · exact absurd (show some (rI x4) = some (.inr (.inl (g ic0))) from e5) (fun h => by cases h)
  have sc0 : σ x1 = .inl (ty0, mc0, .inl gc0) := sc0
  have ec0 : x4 = gc0 ic0 := Sum.inl.inj (Option.some.inj (show some (rI x4) = some _ from e5))
  have kc0 : (ic0 : Int) = (1 * x3.toInt + 0) + 0 := by
    obtain ⟨z, e6, e7⟩ := e4
    obtain rfl : (1 * x3.toInt + 0) = z := Option.some.inj (show some (1 * x3.toInt + 0) = some z from e6)
    exact e7
  clear e1 e4 e5
  have l0 : 0 ≤ (1 * x2.toInt + (-1 * x3.toInt + 0)) + -1 := by
    obtain ⟨z, e6, e7⟩ := m3 ([(2, 1), (3, -1)], -1) (List.mem_of_getElem? (i := 0) rfl)
    obtain rfl : (1 * x2.toInt + (-1 * x3.toInt + 0)) = z := Option.some.inj (show some (1 * x2.toInt + (-1 * x3.toInt + 0)) = some z from e6)
    exact e7
  have f0 : rB K n p 99 [rR x0, rI x2] σ := by
    obtain ⟨w, e6, e7⟩ := m4 (1586, [0, 2]) (List.mem_of_getElem? (i := 0) rfl)
    obtain rfl : [rR x0, rI x2] = w := Option.some.inj (show some [rR x0, rI x2] = some w from e6)
    exact (rF_b (r := 1586) (by decide) rfl).mp e7
  have f0 := ro_99.mp f0
  clear m1 m2 m3 m4
  have q0 : rB K n p 25 [rI x4] σ := ro_25.mpr (by
    obtain ⟨hp, h1, g, h3, h4⟩ := f0
    have e1 := rRo_c (i := ic0) h3 s0 t0 sc0 ec0
    have h5 := h4 (by omega) x3.toInt b3 (by omega)
    rw [show (2048 * 0 + x3.toInt).toNat = ic0 by omega, e1] at h5
    exact h5.1)
  have q1 : rB K n (rSh rS1 p [rR x0, rI x4]) 24 [] σ := ro_24.mpr (by
    obtain ⟨hp, h1, g, h3, h4⟩ := f0
    have e1 := rRo_c (i := ic0) h3 s0 t0 sc0 ec0
    have h5 := h4 (by omega) x3.toInt b3 (by omega)
    rw [show (2048 * 0 + x3.toInt).toNat = ic0 by omega, e1] at h5
    rw [rSh_mk hp]
    exact h5.2)
  exact ⟨p, fun _ => rfl, ⟨(fun q h => by cases h), fun q h => (by cases h), (fun f h => by cases h), (aAllc ⟨_, rfl, (rF_b (r := 401) (by decide) rfl).mpr q0⟩ (aAllc ⟨_, rfl, (rF_g (r := 384) (by decide)).mpr q1⟩ (fun f h => by cases h)))⟩, [], List.mem_cons_self, fun f h => (by cases h)⟩
theorem rw_rvLFy {K : Nat → Nat} {n : Nat} {JX : (Nat → jcell) → Prop} : aGho (rF K n) fa_T K n JX ag_rvLFy := by
  refine aGho_of ⟨rfl, rfl⟩ ?_
  intro p σ ρ hH hX hA hM0
  have hG := aAG_of hA.1 (fun i e v he hv => (hA.2 i e v he hv).1)
  clear hA
  obtain ⟨v0, v1, v2, rfl, g0, g1, g2⟩ := rA_3 hG
  clear hG
  obtain ⟨x0, rfl, b0, d0⟩ := rG_ref (by decide) g0
  obtain ⟨x1, rfl, b1, d1⟩ := aG_int g1
  dsimp only at b1 d1
  obtain ⟨x2, rfl, b2, d2⟩ := aG_int g2
  dsimp only at b2 d2
  obtain ⟨m1, m2, m3, m4⟩ := hM0
  obtain ⟨M, hM⟩ := rMe_ex hH b0 d0
  have f0 : rB K n p 76 [rR x0, rI x1, rI x2] σ := by
    obtain ⟨w, e6, e7⟩ := m4 (1219, [0, 1, 2]) (List.mem_of_getElem? (i := 0) rfl)
    obtain rfl : [rR x0, rI x1, rI x2] = w := Option.some.inj (show some [rR x0, rI x1, rI x2] = some w from e6)
    exact (rF_b (r := 1219) (by decide) rfl).mp e7
  have f0 := ro_76.mp f0
  clear m1 m2 m3 m4
  have q0 : rB K n p 80 [rR x0, rI x2] σ := ro_80.mpr (by
    rw [show x1.toInt = 1 by omega] at f0
    exact f0)
  exact ⟨p, fun _ => rfl, ⟨(fun q h => by cases h), fun q h => (by cases h), (fun f h => by cases h), (aAllc ⟨_, rfl, (rF_b (r := 1282) (by decide) rfl).mpr q0⟩ (fun f h => by cases h))⟩, [], List.mem_cons_self, fun f h => (by cases h)⟩
theorem rw_rvLdy {K : Nat → Nat} {n : Nat} {JX : (Nat → jcell) → Prop} : aGho (rF K n) fa_T K n JX ag_rvLdy := by
  refine aGho_of ⟨rfl, rfl⟩ ?_
  intro p σ ρ hH hX hA hM0
  have hG := aAG_of hA.1 (fun i e v he hv => (hA.2 i e v he hv).1)
  clear hA
  obtain ⟨v0, v1, v2, v3, v4, rfl, g0, g1, g2, g3, g4⟩ := rA_5 hG
  clear hG
  obtain ⟨x0, rfl, b0, d0⟩ := rG_ref (by decide) g0
  obtain ⟨x1, rfl, b1, d1⟩ := rG_ref (by decide) g1
  obtain ⟨x2, rfl, b2, d2⟩ := aG_int g2
  dsimp only at b2 d2
  obtain ⟨x3, rfl, b3, d3⟩ := aG_int g3
  dsimp only at b3 d3
  obtain ⟨x4, rfl, b4, d4⟩ := aG_int g4
  dsimp only at b4 d4
  obtain ⟨m1, m2, m3, m4⟩ := hM0
  obtain ⟨M, hM⟩ := rMe_ex hH b0 d0
  obtain ⟨a0, c0, fs0, w0, e1, s0, t0, e4⟩ := m1 (0, 21, 1) (List.mem_of_getElem? (i := 0) rfl)
  obtain rfl : x0 = a0 := Sum.inl.inj (Option.some.inj (Sum.inr.inj (Sum.inr.inj (Option.some.inj (show some (rR x0) = some _ from e1)))))
  obtain rfl : rR x1 = w0 := Option.some.inj (show some (rR x1) = some w0 from e4)
  clear e1 e4
  obtain ⟨a, mc0, ty0, gc0, ic0, e1, sc0, jc0, e4, e5⟩ := m2 (1, ([(3, 1)], 2048), 4) (List.mem_of_getElem? (i := 0) rfl)
  obtain rfl : x1 = a := Sum.inl.inj (Option.some.inj (Sum.inr.inj (Sum.inr.inj (Option.some.inj (show some (rR x1) = some _ from e1)))))
  obtain ⟨gc0, rfl⟩ : ∃ g, gc0 = .inl g := by
    rcases gc0 with g | g
    · exact ⟨g, rfl⟩
    · exact absurd (show some (rI x4) = some (.inr (.inl (g ic0))) from e5) (fun h => by cases h)
  have sc0 : σ x1 = .inl (ty0, mc0, .inl gc0) := sc0
  have ec0 : x4 = gc0 ic0 := Sum.inl.inj (Option.some.inj (show some (rI x4) = some _ from e5))
  have kc0 : (ic0 : Int) = (1 * x3.toInt + 0) + 2048 := by
    obtain ⟨z, e6, e7⟩ := e4
    obtain rfl : (1 * x3.toInt + 0) = z := Option.some.inj (show some (1 * x3.toInt + 0) = some z from e6)
    exact e7
  clear e1 e4 e5
  have l0 : 0 ≤ (1 * x2.toInt + (-1 * x3.toInt + 0)) + -1 := by
    obtain ⟨z, e6, e7⟩ := m3 ([(2, 1), (3, -1)], -1) (List.mem_of_getElem? (i := 0) rfl)
    obtain rfl : (1 * x2.toInt + (-1 * x3.toInt + 0)) = z := Option.some.inj (show some (1 * x2.toInt + (-1 * x3.toInt + 0)) = some z from e6)
    exact e7
  have f0 : rB K n p 80 [rR x0, rI x2] σ := by
    obtain ⟨w, e6, e7⟩ := m4 (1282, [0, 2]) (List.mem_of_getElem? (i := 0) rfl)
    obtain rfl : [rR x0, rI x2] = w := Option.some.inj (show some [rR x0, rI x2] = some w from e6)
    exact (rF_b (r := 1282) (by decide) rfl).mp e7
  have f0 := ro_80.mp f0
  clear m1 m2 m3 m4
  have q0 : rB K n p 25 [rI x4] σ := ro_25.mpr (by
    obtain ⟨hp, h1, g, h3, h4⟩ := f0
    have e1 := rRo_c (i := ic0) h3 s0 t0 sc0 ec0
    have h5 := h4 (by omega) x3.toInt b3 (by omega)
    rw [show (2048 * 1 + x3.toInt).toNat = ic0 by omega, e1] at h5
    exact h5.1)
  have q1 : rB K n (rSh rS1 p [rR x0, rI x4]) 24 [] σ := ro_24.mpr (by
    obtain ⟨hp, h1, g, h3, h4⟩ := f0
    have e1 := rRo_c (i := ic0) h3 s0 t0 sc0 ec0
    have h5 := h4 (by omega) x3.toInt b3 (by omega)
    rw [show (2048 * 1 + x3.toInt).toNat = ic0 by omega, e1] at h5
    rw [rSh_mk hp]
    exact h5.2)
  exact ⟨p, fun _ => rfl, ⟨(fun q h => by cases h), fun q h => (by cases h), (fun f h => by cases h), (aAllc ⟨_, rfl, (rF_b (r := 401) (by decide) rfl).mpr q0⟩ (aAllc ⟨_, rfl, (rF_g (r := 384) (by decide)).mpr q1⟩ (fun f h => by cases h)))⟩, [], List.mem_cons_self, fun f h => (by cases h)⟩
theorem rw_rvHP0 {K : Nat → Nat} {n : Nat} {JX : (Nat → jcell) → Prop} : aGho (rF K n) fa_T K n JX ag_rvHP0 := by
  refine aGho_of ⟨rfl, rfl⟩ ?_
  intro p σ ρ hH hX hA hM0
  have hG := aAG_of hA.1 (fun i e v he hv => (hA.2 i e v he hv).1)
  clear hA
  obtain ⟨v0, v1, rfl, g0, g1⟩ := rA_2 hG
  clear hG
  obtain ⟨x0, rfl, b0, d0⟩ := rG_ref (by decide) g0
  obtain ⟨x1, rfl, b1, d1⟩ := aG_int g1
  dsimp only at b1 d1
  obtain ⟨m1, m2, m3, m4⟩ := hM0
  obtain ⟨M, hM⟩ := rMe_ex hH b0 d0
  clear m1 m2 m3 m4
  have q0 : rB K n p 182 [rR x0, rI x1] σ := ro_182_2.mpr (by
    obtain ⟨g, hg⟩ := rRo_ex (ko := 88) (f := 33) (kr := 107) (len := 4) hH rfl rfl rfl (by decide) b0 d0
    obtain ⟨g2, hg2⟩ := rRo_ex (ko := 88) (f := 34) (kr := 108) (len := 4) hH rfl rfl rfl (by decide) b0 d0
    exact ⟨g, g2, hg, hg2, fun j h1 h2 => by omega⟩)
  exact ⟨p, fun _ => rfl, ⟨(fun q h => by cases h), fun q h => (by cases h), (fun f h => by cases h), (aAllc ⟨_, rfl, (rF_b (r := 2914) (by decide) rfl).mpr q0⟩ (fun f h => by cases h))⟩, [], List.mem_cons_self, fun f h => (by cases h)⟩
theorem rw_rvHPs {K : Nat → Nat} {n : Nat} {JX : (Nat → jcell) → Prop} : aGho (rF K n) fa_T K n JX ag_rvHPs := by
  refine aGho_of ⟨rfl, rfl⟩ ?_
  intro p σ ρ hH hX hA hM0
  have hG := aAG_of hA.1 (fun i e v he hv => (hA.2 i e v he hv).1)
  clear hA
  obtain ⟨v0, v1, v2, v3, v4, rfl, g0, g1, g2, g3, g4⟩ := rA_5 hG
  clear hG
  obtain ⟨x0, rfl, b0, d0⟩ := rG_ref (by decide) g0
  obtain ⟨x1, rfl, b1, d1⟩ := rG_ref (by decide) g1
  obtain ⟨x2, rfl, b2, d2⟩ := aG_int g2
  dsimp only at b2 d2
  obtain ⟨x3, rfl, b3, d3⟩ := aG_int g3
  dsimp only at b3 d3
  obtain ⟨x4, rfl, b4, d4⟩ := rG_ref (by decide) g4
  obtain ⟨m1, m2, m3, m4⟩ := hM0
  obtain ⟨M, hM⟩ := rMe_ex hH b0 d0
  obtain ⟨a0, c0, fs0, w0, e1, s0, t0, e4⟩ := m1 (0, 34, 4) (List.mem_of_getElem? (i := 0) rfl)
  obtain rfl : x0 = a0 := Sum.inl.inj (Option.some.inj (Sum.inr.inj (Sum.inr.inj (Option.some.inj (show some (rR x0) = some _ from e1)))))
  obtain rfl : rR x4 = w0 := Option.some.inj (show some (rR x4) = some w0 from e4)
  clear e1 e4
  obtain ⟨a1, c1, fs1, w1, e1, s1, t1, e4⟩ := m1 (0, 33, 1) (List.mem_of_getElem? (i := 1) rfl)
  obtain rfl : x0 = a1 := Sum.inl.inj (Option.some.inj (Sum.inr.inj (Sum.inr.inj (Option.some.inj (show some (rR x0) = some _ from e1)))))
  obtain rfl : rR x1 = w1 := Option.some.inj (show some (rR x1) = some w1 from e4)
  clear e1 e4
  obtain ⟨a, mc0, ty0, gc0, ic0, e1, sc0, jc0, e4, e5⟩ := m2 (4, ([(2, 1)], 0), 3) (List.mem_of_getElem? (i := 0) rfl)
  obtain rfl : x4 = a := Sum.inl.inj (Option.some.inj (Sum.inr.inj (Sum.inr.inj (Option.some.inj (show some (rR x4) = some _ from e1)))))
  obtain ⟨gc0, rfl⟩ : ∃ g, gc0 = .inl g := by
    rcases gc0 with g | g
    · exact ⟨g, rfl⟩
    · exact absurd (show some (rI x3) = some (.inr (.inl (g ic0))) from e5) (fun h => by cases h)
  have sc0 : σ x4 = .inl (ty0, mc0, .inl gc0) := sc0
  have ec0 : x3 = gc0 ic0 := Sum.inl.inj (Option.some.inj (show some (rI x3) = some _ from e5))
  have kc0 : (ic0 : Int) = (1 * x2.toInt + 0) + 0 := by
    obtain ⟨z, e6, e7⟩ := e4
    obtain rfl : (1 * x2.toInt + 0) = z := Option.some.inj (show some (1 * x2.toInt + 0) = some z from e6)
    exact e7
  clear e1 e4 e5
  have f0 : rB K n p 182 [rR x0, rI x2] σ := by
    obtain ⟨w, e6, e7⟩ := m4 (2914, [0, 2]) (List.mem_of_getElem? (i := 0) rfl)
    obtain rfl : [rR x0, rI x2] = w := Option.some.inj (show some [rR x0, rI x2] = some w from e6)
    exact (rF_b (r := 2914) (by decide) rfl).mp e7
  have f0 := ro_182_2.mp f0
  clear m1 m2 m3 m4
  have q0 : rB K n p 183 [rR x0, rI x2] (jup σ x1 (jsto (σ x1) x2.toNatClampNeg x3)) := ro_183.mpr (by
    obtain ⟨g, g2, h1, h2, h3⟩ := f0
    have e := rRo_c (i := ic0) h2 s0 t0 sc0 ec0
    refine ⟨_, g2, rRo_up h1 s1 t1, rRo_o h2 (by rw [d1]; decide) (by rw [d1]; decide), fun j j1 j2 => ?_⟩
    have hi : x2.toNatClampNeg = x2.toInt.toNat := rfl
    unfold upd
    by_cases cj : j = x2.toInt
    · rw [if_pos (by rw [hi]; omega), show j.toNat = ic0 by omega]
      exact (Int32.toInt_inj.mp e).symm
    · rw [if_neg (by rw [hi]; omega)]
      exact h3 j j1 (by omega))
  exact ⟨p, fun _ => rfl, ⟨(fun q h => by cases h), fun q h => (by cases h), (fun f h => by cases h), (aAllc ⟨_, rfl, rF_p (r := 2930) (by decide) (by decide) q0⟩ (fun f h => by cases h))⟩, [], List.mem_cons_self, fun f h => (by cases h)⟩
theorem rw_rvHPn {K : Nat → Nat} {n : Nat} {JX : (Nat → jcell) → Prop} : aGho (rF K n) fa_T K n JX ag_rvHPn := by
  refine aGho_of ⟨rfl, rfl⟩ ?_
  intro p σ ρ hH hX hA hM0
  have hG := aAG_of hA.1 (fun i e v he hv => (hA.2 i e v he hv).1)
  clear hA
  obtain ⟨v0, v1, v2, rfl, g0, g1, g2⟩ := rA_3 hG
  clear hG
  obtain ⟨x0, rfl, b0, d0⟩ := rG_ref (by decide) g0
  obtain ⟨x1, rfl, b1, d1⟩ := aG_int g1
  dsimp only at b1 d1
  obtain ⟨x2, rfl, b2, d2⟩ := aG_int g2
  dsimp only at b2 d2
  obtain ⟨m1, m2, m3, m4⟩ := hM0
  obtain ⟨M, hM⟩ := rMe_ex hH b0 d0
  have l0 : 0 ≤ (1 * x2.toInt + (-1 * x1.toInt + 0)) + -1 := by
    obtain ⟨z, e6, e7⟩ := m3 ([(2, 1), (1, -1)], -1) (List.mem_of_getElem? (i := 0) rfl)
    obtain rfl : (1 * x2.toInt + (-1 * x1.toInt + 0)) = z := Option.some.inj (show some (1 * x2.toInt + (-1 * x1.toInt + 0)) = some z from e6)
    exact e7
  have l1 : 0 ≤ (-1 * x2.toInt + (1 * x1.toInt + 0)) + 1 := by
    obtain ⟨z, e6, e7⟩ := m3 ([(2, -1), (1, 1)], 1) (List.mem_of_getElem? (i := 1) rfl)
    obtain rfl : (-1 * x2.toInt + (1 * x1.toInt + 0)) = z := Option.some.inj (show some (-1 * x2.toInt + (1 * x1.toInt + 0)) = some z from e6)
    exact e7
  have f0 : rB K n p 183 [rR x0, rI x1] σ := by
    obtain ⟨w, e6, e7⟩ := m4 (2930, [0, 1]) (List.mem_of_getElem? (i := 0) rfl)
    obtain rfl : [rR x0, rI x1] = w := Option.some.inj (show some [rR x0, rI x1] = some w from e6)
    exact (rF_b (r := 2930) (by decide) rfl).mp e7
  have f0 := ro_183.mp f0
  clear m1 m2 m3 m4
  have q0 : rB K n p 182 [rR x0, rI x2] σ := ro_182_2.mpr (by
    rw [show x2.toInt = x1.toInt + 1 by omega]
    exact f0)
  exact ⟨p, fun _ => rfl, ⟨(fun q h => by cases h), fun q h => (by cases h), (fun f h => by cases h), (aAllc ⟨_, rfl, (rF_b (r := 2914) (by decide) rfl).mpr q0⟩ (fun f h => by cases h))⟩, [], List.mem_cons_self, fun f h => (by cases h)⟩
theorem rw_rvHPe {K : Nat → Nat} {n : Nat} {JX : (Nat → jcell) → Prop} : aGho (rF K n) fa_T K n JX ag_rvHPe := by
  refine aGho_of ⟨rfl, rfl⟩ ?_
  intro p σ ρ hH hX hA hM0
  have hG := aAG_of hA.1 (fun i e v he hv => (hA.2 i e v he hv).1)
  clear hA
  obtain ⟨v0, v1, v2, v3, v4, rfl, g0, g1, g2, g3, g4⟩ := rA_5 hG
  clear hG
  obtain ⟨x0, rfl, b0, d0⟩ := rG_ref (by decide) g0
  obtain ⟨x1, rfl, b1, d1⟩ := aG_int g1
  dsimp only at b1 d1
  obtain ⟨x2, rfl, b2, d2⟩ := aG_int g2
  dsimp only at b2 d2
  obtain ⟨x3, rfl, b3, d3⟩ := aG_int g3
  dsimp only at b3 d3
  obtain ⟨x4, rfl, b4, d4⟩ := aG_int g4
  dsimp only at b4 d4
  obtain ⟨m1, m2, m3, m4⟩ := hM0
  obtain ⟨M, hM⟩ := rMe_ex hH b0 d0
  have l0 : 0 ≤ (1 * x1.toInt + (-1 * x2.toInt + 0)) + 0 := by
    obtain ⟨z, e6, e7⟩ := m3 ([(1, 1), (2, -1)], 0) (List.mem_of_getElem? (i := 0) rfl)
    obtain rfl : (1 * x1.toInt + (-1 * x2.toInt + 0)) = z := Option.some.inj (show some (1 * x1.toInt + (-1 * x2.toInt + 0)) = some z from e6)
    exact e7
  have l1 : 0 ≤ (-1 * x1.toInt + (1 * x2.toInt + 0)) + 0 := by
    obtain ⟨z, e6, e7⟩ := m3 ([(1, -1), (2, 1)], 0) (List.mem_of_getElem? (i := 1) rfl)
    obtain rfl : (-1 * x1.toInt + (1 * x2.toInt + 0)) = z := Option.some.inj (show some (-1 * x1.toInt + (1 * x2.toInt + 0)) = some z from e6)
    exact e7
  have f0 : rB K n p 182 [rR x0, rI x1] σ := by
    obtain ⟨w, e6, e7⟩ := m4 (2914, [0, 1]) (List.mem_of_getElem? (i := 0) rfl)
    obtain rfl : [rR x0, rI x1] = w := Option.some.inj (show some [rR x0, rI x1] = some w from e6)
    exact (rF_b (r := 2914) (by decide) rfl).mp e7
  have f0 := ro_182_2.mp f0
  clear m1 m2 m3 m4
  have q0 : rB K n p 97 [rR x0, rI x2, rI x3, rI x4] σ := ro_97_4.mpr (by
    obtain ⟨g, g2, h1, -, -⟩ := f0
    intro _
    refine ⟨g, h1, ?_⟩
    rw [show x3.toInt.toNat = 0 by omega]
    trivial)
  have q1 : rB K n p 182 [rR x0, rI x2, rI x4] σ := ro_182_3.mpr (by
    intro _
    rw [show x2.toInt = x1.toInt by omega]
    exact f0)
  exact ⟨p, fun _ => rfl, ⟨(fun q h => by cases h), fun q h => (by cases h), (fun f h => by cases h), (aAllc ⟨_, rfl, (rF_b (r := 1556) (by decide) rfl).mpr q0⟩ (aAllc ⟨_, rfl, (rF_b (r := 2915) (by decide) rfl).mpr q1⟩ (fun f h => by cases h)))⟩, [], List.mem_cons_self, fun f h => (by cases h)⟩
theorem rw_rvMH0 {K : Nat → Nat} {n : Nat} {JX : (Nat → jcell) → Prop} : aGho (rF K n) fa_T K n JX ag_rvMH0 := by
  refine aGho_of ⟨rfl, rfl⟩ ?_
  intro p σ ρ hH hX hA hM0
  have hG := aAG_of hA.1 (fun i e v he hv => (hA.2 i e v he hv).1)
  clear hA
  obtain ⟨v0, v1, v2, v3, rfl, g0, g1, g2, g3⟩ := rA_4 hG
  clear hG
  obtain ⟨x0, rfl, b0, d0⟩ := rG_ref (by decide) g0
  obtain ⟨x1, rfl, b1, d1⟩ := aG_int g1
  dsimp only at b1 d1
  obtain ⟨x2, rfl, b2, d2⟩ := aG_int g2
  dsimp only at b2 d2
  obtain ⟨x3, rfl, b3, d3⟩ := aG_int g3
  dsimp only at b3 d3
  obtain ⟨m1, m2, m3, m4⟩ := hM0
  obtain ⟨M, hM⟩ := rMe_ex hH b0 d0
  clear m1 m2 m3 m4
  have q0 : rB K n p 97 [rR x0, rI x1, rI x2, rI x3] σ := ro_97_4.mpr (by
    intro h
    omega)
  have q1 : rB K n p 182 [rR x0, rI x1, rI x3] σ := ro_182_3.mpr (by
    intro h
    omega)
  exact ⟨p, fun _ => rfl, ⟨(fun q h => by cases h), fun q h => (by cases h), (fun f h => by cases h), (aAllc ⟨_, rfl, (rF_b (r := 1556) (by decide) rfl).mpr q0⟩ (aAllc ⟨_, rfl, (rF_b (r := 2915) (by decide) rfl).mpr q1⟩ (fun f h => by cases h)))⟩, [], List.mem_cons_self, fun f h => (by cases h)⟩
theorem rw_rvMH1 {K : Nat → Nat} {n : Nat} {JX : (Nat → jcell) → Prop} : aGho (rF K n) fa_T K n JX ag_rvMH1 := by
  refine aGho_of ⟨rfl, rfl⟩ ?_
  intro p σ ρ hH hX hA hM0
  have hG := aAG_of hA.1 (fun i e v he hv => (hA.2 i e v he hv).1)
  clear hA
  obtain ⟨v0, v1, v2, v3, rfl, g0, g1, g2, g3⟩ := rA_4 hG
  clear hG
  obtain ⟨x0, rfl, b0, d0⟩ := rG_ref (by decide) g0
  obtain ⟨x1, rfl, b1, d1⟩ := aG_int g1
  dsimp only at b1 d1
  obtain ⟨x2, rfl, b2, d2⟩ := aG_int g2
  dsimp only at b2 d2
  obtain ⟨x3, rfl, b3, d3⟩ := aG_int g3
  dsimp only at b3 d3
  obtain ⟨m1, m2, m3, m4⟩ := hM0
  obtain ⟨M, hM⟩ := rMe_ex hH b0 d0
  have f0 : rB K n p 97 [rR x0, rI x1, rI x2] σ := by
    obtain ⟨w, e6, e7⟩ := m4 (1555, [0, 1, 2]) (List.mem_of_getElem? (i := 0) rfl)
    obtain rfl : [rR x0, rI x1, rI x2] = w := Option.some.inj (show some [rR x0, rI x1, rI x2] = some w from e6)
    exact (rF_b (r := 1555) (by decide) rfl).mp e7
  have f0 := ro_97_3.mp f0
  have f1 : rB K n p 182 [rR x0, rI x1] σ := by
    obtain ⟨w, e6, e7⟩ := m4 (2914, [0, 1]) (List.mem_of_getElem? (i := 1) rfl)
    obtain rfl : [rR x0, rI x1] = w := Option.some.inj (show some [rR x0, rI x1] = some w from e6)
    exact (rF_b (r := 2914) (by decide) rfl).mp e7
  have f1 := ro_182_2.mp f1
  clear m1 m2 m3 m4
  have q0 : rB K n p 97 [rR x0, rI x1, rI x2, rI x3] σ := ro_97_4.mpr (by
    intro _
    exact f0)
  have q1 : rB K n p 182 [rR x0, rI x1, rI x3] σ := ro_182_3.mpr (by
    intro _
    exact f1)
  exact ⟨p, fun _ => rfl, ⟨(fun q h => by cases h), fun q h => (by cases h), (fun f h => by cases h), (aAllc ⟨_, rfl, (rF_b (r := 1556) (by decide) rfl).mpr q0⟩ (aAllc ⟨_, rfl, (rF_b (r := 2915) (by decide) rfl).mpr q1⟩ (fun f h => by cases h)))⟩, [], List.mem_cons_self, fun f h => (by cases h)⟩
theorem rw_rvTRp {K : Nat → Nat} {n : Nat} {JX : (Nat → jcell) → Prop} : aGho (rF K n) fa_T K n JX ag_rvTRp := by
  refine aGho_of ⟨rfl, rfl⟩ ?_
  intro p σ ρ hH hX hA hM0
  have hG := aAG_of hA.1 (fun i e v he hv => (hA.2 i e v he hv).1)
  clear hA
  obtain ⟨v0, v1, v2, v3, rfl, g0, g1, g2, g3⟩ := rA_4 hG
  clear hG
  obtain ⟨x0, rfl, b0, d0⟩ := rG_ref (by decide) g0
  obtain ⟨x1, rfl, b1, d1⟩ := rG_ref (by decide) g1
  obtain ⟨x2, rfl, b2, d2⟩ := aG_int g2
  dsimp only at b2 d2
  obtain ⟨x3, rfl, b3, d3⟩ := aG_int g3
  dsimp only at b3 d3
  obtain ⟨m1, m2, m3, m4⟩ := hM0
  obtain ⟨M, hM⟩ := rMe_ex hH b0 d0
  obtain ⟨a0, c0, fs0, w0, e1, s0, t0, e4⟩ := m1 (0, 34, 1) (List.mem_of_getElem? (i := 0) rfl)
  obtain rfl : x0 = a0 := Sum.inl.inj (Option.some.inj (Sum.inr.inj (Sum.inr.inj (Option.some.inj (show some (rR x0) = some _ from e1)))))
  obtain rfl : rR x1 = w0 := Option.some.inj (show some (rR x1) = some w0 from e4)
  clear e1 e4
  clear m1 m2 m3 m4
  have q0 : rB K n p 188 [rR x0, rI x2, rI x3] (jup σ x1 (jsto (σ x1) x2.toNatClampNeg x3)) := ro_188.mpr (by
    obtain ⟨g, h⟩ := rRo_of (k := 88) (f := 34) hH b0 d0 s0 t0 b1 d1 rfl
    refine ⟨by omega, _, rRo_up h s0 t0, ?_⟩
    unfold upd
    rw [if_pos (show x2.toInt.toNat = x2.toNatClampNeg from rfl)])
  exact ⟨p, fun _ => rfl, ⟨(fun q h => by cases h), fun q h => (by cases h), (fun f h => by cases h), (aAllc ⟨_, rfl, rF_p (r := 3011) (by decide) (by decide) q0⟩ (fun f h => by cases h))⟩, [], List.mem_cons_self, fun f h => (by cases h)⟩
theorem rw_rvMHu {K : Nat → Nat} {n : Nat} {JX : (Nat → jcell) → Prop} : aGho (rF K n) fa_T K n JX ag_rvMHu := by
  refine aGho_of ⟨rfl, rfl⟩ ?_
  intro p σ ρ hH hX hA hM0
  have hG := aAG_of hA.1 (fun i e v he hv => (hA.2 i e v he hv).1)
  clear hA
  obtain ⟨v0, v1, v2, v3, v4, v5, v6, rfl, g0, g1, g2, g3, g4, g5, g6⟩ := rA_7 hG
  clear hG
  obtain ⟨x0, rfl, b0, d0⟩ := rG_ref (by decide) g0
  obtain ⟨x1, rfl, b1, d1⟩ := aG_int g1
  dsimp only at b1 d1
  obtain ⟨x2, rfl, b2, d2⟩ := aG_int g2
  dsimp only at b2 d2
  obtain ⟨x3, rfl, b3, d3⟩ := aG_int g3
  dsimp only at b3 d3
  obtain ⟨x4, rfl, b4, d4⟩ := aG_int g4
  dsimp only at b4 d4
  obtain ⟨x5, rfl, b5, d5⟩ := aG_int g5
  dsimp only at b5 d5
  obtain ⟨x6, rfl, b6, d6⟩ := aG_int g6
  dsimp only at b6 d6
  obtain ⟨m1, m2, m3, m4⟩ := hM0
  obtain ⟨M, hM⟩ := rMe_ex hH b0 d0
  have l0 : 0 ≤ (1 * x2.toInt + (-1 * x1.toInt + 0)) + -1 := by
    obtain ⟨z, e6, e7⟩ := m3 ([(2, 1), (1, -1)], -1) (List.mem_of_getElem? (i := 0) rfl)
    obtain rfl : (1 * x2.toInt + (-1 * x1.toInt + 0)) = z := Option.some.inj (show some (1 * x2.toInt + (-1 * x1.toInt + 0)) = some z from e6)
    exact e7
  have l1 : 0 ≤ (-1 * x2.toInt + (1 * x1.toInt + 0)) + 1 := by
    obtain ⟨z, e6, e7⟩ := m3 ([(2, -1), (1, 1)], 1) (List.mem_of_getElem? (i := 1) rfl)
    obtain rfl : (-1 * x2.toInt + (1 * x1.toInt + 0)) = z := Option.some.inj (show some (-1 * x2.toInt + (1 * x1.toInt + 0)) = some z from e6)
    exact e7
  have l2 : 0 ≤ (1 * x4.toInt + (-1 * x3.toInt + 0)) + 1 := by
    obtain ⟨z, e6, e7⟩ := m3 ([(4, 1), (3, -1)], 1) (List.mem_of_getElem? (i := 2) rfl)
    obtain rfl : (1 * x4.toInt + (-1 * x3.toInt + 0)) = z := Option.some.inj (show some (1 * x4.toInt + (-1 * x3.toInt + 0)) = some z from e6)
    exact e7
  have l3 : 0 ≤ (-1 * x4.toInt + (1 * x3.toInt + 0)) + -1 := by
    obtain ⟨z, e6, e7⟩ := m3 ([(4, -1), (3, 1)], -1) (List.mem_of_getElem? (i := 3) rfl)
    obtain rfl : (-1 * x4.toInt + (1 * x3.toInt + 0)) = z := Option.some.inj (show some (-1 * x4.toInt + (1 * x3.toInt + 0)) = some z from e6)
    exact e7
  have f0 : rB K n (rSh rS1 p [rR x0, rI x5]) 97 [rR x0, rI x2, rI x4, rI x6] σ := by
    obtain ⟨w, e6, e7⟩ := m4 (1556, [0, 2, 4, 6, 0, 5]) (List.mem_of_getElem? (i := 0) rfl)
    obtain rfl : [rR x0, rI x2, rI x4, rI x6, rR x0, rI x5] = w := Option.some.inj (show some [rR x0, rI x2, rI x4, rI x6, rR x0, rI x5] = some w from e6)
    exact (rF_g (r := 1556) (by decide)).mp e7
  have f0 := ro_97_4.mp f0
  have f1 : rB K n (rSh rS1 p [rR x0, rI x5]) 182 [rR x0, rI x2, rI x6] σ := by
    obtain ⟨w, e6, e7⟩ := m4 (2915, [0, 2, 6, 0, 5]) (List.mem_of_getElem? (i := 1) rfl)
    obtain rfl : [rR x0, rI x2, rI x6, rR x0, rI x5] = w := Option.some.inj (show some [rR x0, rI x2, rI x6, rR x0, rI x5] = some w from e6)
    exact (rF_g (r := 2915) (by decide)).mp e7
  have f1 := ro_182_3.mp f1
  have f2 : rB K n p 188 [rR x0, rI x1, rI x5] σ := by
    obtain ⟨w, e6, e7⟩ := m4 (3011, [0, 1, 5]) (List.mem_of_getElem? (i := 2) rfl)
    obtain rfl : [rR x0, rI x1, rI x5] = w := Option.some.inj (show some [rR x0, rI x1, rI x5] = some w from e6)
    exact (rF_b (r := 3011) (by decide) rfl).mp e7
  have f2 := ro_188.mp f2
  have f3 : rB K n p 25 [rI x5] σ := by
    obtain ⟨w, e6, e7⟩ := m4 (401, [5]) (List.mem_of_getElem? (i := 3) rfl)
    obtain rfl : [rI x5] = w := Option.some.inj (show some [rI x5] = some w from e6)
    exact (rF_b (r := 401) (by decide) rfl).mp e7
  have f3 := ro_25.mp f3
  have f4 : rB K n (rSh rS1 p [rR x0, rI x5]) 24 [] σ := by
    obtain ⟨w, e6, e7⟩ := m4 (384, [0, 5]) (List.mem_of_getElem? (i := 4) rfl)
    obtain rfl : [rR x0, rI x5] = w := Option.some.inj (show some [rR x0, rI x5] = some w from e6)
    exact (rF_g (r := 384) (by decide)).mp e7
  have f4 := ro_24.mp f4
  clear m1 m2 m3 m4
  have q0 : rB K n p 97 [rR x0, rI x1, rI x3] σ := ro_97_3.mpr (by
    obtain ⟨g, g2, h1, h2, h3⟩ := f1 (by omega)
    obtain ⟨g', h4, h5⟩ := f0 (by omega)
    obtain rfl := rRo_u h1 h4
    obtain ⟨h6, g3, h7, h8⟩ := f2
    obtain rfl := rRo_u h2 h7
    have e : g x1.toInt.toNat = x5 := by
      rw [h3 x1.toInt h6 (by omega)]
      exact Int32.toInt_inj.mp h8
    refine ⟨g, h1, ?_⟩
    rw [show x3.toInt.toNat = x4.toInt.toNat + 1 by omega]
    unfold rLn
    rw [e]
    rw [show x2.toInt.toNat = x1.toInt.toNat + 1 by omega] at h5
    exact ⟨f3, f4, h5⟩)
  have q1 : rB K n p 182 [rR x0, rI x1] σ := ro_182_2.mpr (by
    obtain ⟨g, g2, h1, h2, h3⟩ := f1 (by omega)
    exact ⟨g, g2, h1, h2, fun j j1 j2 => h3 j j1 (by omega)⟩)
  exact ⟨p, fun _ => rfl, ⟨(fun q h => by cases h), fun q h => (by cases h), (fun f h => by cases h), (aAllc ⟨_, rfl, (rF_b (r := 1555) (by decide) rfl).mpr q0⟩ (aAllc ⟨_, rfl, (rF_b (r := 2914) (by decide) rfl).mpr q1⟩ (fun f h => by cases h)))⟩, [], List.mem_cons_self, fun f h => (by cases h)⟩
theorem rw_rvR9 {K : Nat → Nat} {n : Nat} {JX : (Nat → jcell) → Prop} : aGho (rF K n) fa_T K n JX ag_rvR9 := by
  refine aGho_of ⟨rfl, rfl⟩ ?_
  intro p σ ρ hH hX hA hM0
  have hG := aAG_of hA.1 (fun i e v he hv => (hA.2 i e v he hv).1)
  clear hA
  obtain ⟨v0, rfl, g0⟩ := rA_1 hG
  clear hG
  obtain ⟨x0, rfl, b0, d0⟩ := aG_int g0
  dsimp only at b0 d0
  obtain ⟨m1, m2, m3, m4⟩ := hM0
  have l0 : 0 ≤ (1 * x0.toInt + 0) + 0 := by
    obtain ⟨z, e6, e7⟩ := m3 ([(0, 1)], 0) (List.mem_of_getElem? (i := 0) rfl)
    obtain rfl : (1 * x0.toInt + 0) = z := Option.some.inj (show some (1 * x0.toInt + 0) = some z from e6)
    exact e7
  have l1 : 0 ≤ (-1 * x0.toInt + 0) + 999999999 := by
    obtain ⟨z, e6, e7⟩ := m3 ([(0, -1)], 999999999) (List.mem_of_getElem? (i := 1) rfl)
    obtain rfl : (-1 * x0.toInt + 0) = z := Option.some.inj (show some (-1 * x0.toInt + 0) = some z from e6)
    exact e7
  clear m1 m2 m3 m4
  have r0 : 0 ≤ (1 * x0.toInt + 0) + 0 := by
    omega
  have r1 : 0 ≤ (-1 * x0.toInt + 0) + 999999999 := by
    omega
  exact ⟨p, fun _ => rfl, ⟨(fun q h => by cases h), fun q h => (by cases h), (aAllc ⟨_, rfl, r0⟩ (aAllc ⟨_, rfl, r1⟩ (fun f h => by cases h))), (fun f h => by cases h)⟩, [], List.mem_cons_self, fun f h => (by cases h)⟩
theorem rw_rvME {K : Nat → Nat} {n : Nat} {JX : (Nat → jcell) → Prop} : aGho (rF K n) fa_T K n JX ag_rvME := by
  refine aGho_of ⟨rfl, rfl⟩ ?_
  intro p σ ρ hH hX hA hM0
  have hG := aAG_of hA.1 (fun i e v he hv => (hA.2 i e v he hv).1)
  clear hA
  obtain ⟨v0, rfl, g0⟩ := rA_1 hG
  clear hG
  obtain ⟨x0, rfl, b0, d0⟩ := aG_int g0
  dsimp only at b0 d0
  obtain ⟨m1, m2, m3, m4⟩ := hM0
  clear m1 m2 m3 m4
  have hd : (0 ≤ (1 * x0.toInt + 0) + 0 ∧ 0 ≤ (-1 * x0.toInt + 0) + 0) ∨ (0 ≤ (1 * x0.toInt + 0) + -1 ∧ 0 ≤ (-1 * x0.toInt + 0) + 1) := by
    omega
  rcases hd with ⟨w0, w1⟩ | ⟨w0, w1⟩
  · exact ⟨p, fun _ => rfl, ⟨(fun q h => by cases h), fun q h => (by cases h), (fun f h => by cases h), (fun f h => by cases h)⟩, _, List.mem_of_getElem? (i := 0) rfl, (aAllc ⟨_, rfl, w0⟩ (aAllc ⟨_, rfl, w1⟩ (fun f h => by cases h)))⟩
  · exact ⟨p, fun _ => rfl, ⟨(fun q h => by cases h), fun q h => (by cases h), (fun f h => by cases h), (fun f h => by cases h)⟩, _, List.mem_of_getElem? (i := 1) rfl, (aAllc ⟨_, rfl, w0⟩ (aAllc ⟨_, rfl, w1⟩ (fun f h => by cases h)))⟩
theorem rw_rvSG0 {K : Nat → Nat} {n : Nat} {JX : (Nat → jcell) → Prop} : aGho (rF K n) fa_T K n JX ag_rvSG0 := by
  refine aGho_of ⟨rfl, rfl⟩ ?_
  intro p σ ρ hH hX hA hM0
  have hG := aAG_of hA.1 (fun i e v he hv => (hA.2 i e v he hv).1)
  clear hA
  obtain ⟨v0, v1, v2, v3, rfl, g0, g1, g2, g3⟩ := rA_4 hG
  clear hG
  obtain ⟨x0, rfl, b0, d0⟩ := rG_ref (by decide) g0
  obtain ⟨x1, rfl, b1, d1⟩ := aG_int g1
  dsimp only at b1 d1
  obtain ⟨x2, rfl, b2, d2⟩ := aG_int g2
  dsimp only at b2 d2
  obtain ⟨x3, rfl, b3, d3⟩ := aG_int g3
  dsimp only at b3 d3
  obtain ⟨m1, m2, m3, m4⟩ := hM0
  obtain ⟨M, hM⟩ := rMe_ex hH b0 d0
  obtain ⟨a0, c0, fs0, w0, e1, s0, t0, e4⟩ := m1 (0, 0, 3) (List.mem_of_getElem? (i := 0) rfl)
  obtain rfl : x0 = a0 := Sum.inl.inj (Option.some.inj (Sum.inr.inj (Sum.inr.inj (Option.some.inj (show some (rR x0) = some _ from e1)))))
  obtain rfl : rI x3 = w0 := Option.some.inj (show some (rI x3) = some w0 from e4)
  clear e1 e4
  have l0 : 0 ≤ (1 * x1.toInt + (-1 * x3.toInt + 0)) + 0 := by
    obtain ⟨z, e6, e7⟩ := m3 ([(1, 1), (3, -1)], 0) (List.mem_of_getElem? (i := 0) rfl)
    obtain rfl : (1 * x1.toInt + (-1 * x3.toInt + 0)) = z := Option.some.inj (show some (1 * x1.toInt + (-1 * x3.toInt + 0)) = some z from e6)
    exact e7
  clear m1 m2 m3 m4
  have q0 : rB K n p 189 [rR x0, rI x1, rI x2] σ := ro_189.mpr (by
    obtain ⟨g, h⟩ := rTx_ex hH b0 d0
    refine ⟨g, x3, h, ⟨b0, d0, _, _, s0, t0⟩, ?_⟩
    rw [if_neg (by omega)]
    omega)
  exact ⟨p, fun _ => rfl, ⟨(fun q h => by cases h), fun q h => (by cases h), (fun f h => by cases h), (aAllc ⟨_, rfl, (rF_b (r := 3027) (by decide) rfl).mpr q0⟩ (fun f h => by cases h))⟩, [], List.mem_cons_self, fun f h => (by cases h)⟩
theorem rw_rvSG1 {K : Nat → Nat} {n : Nat} {JX : (Nat → jcell) → Prop} : aGho (rF K n) fa_T K n JX ag_rvSG1 := by
  refine aGho_of ⟨rfl, rfl⟩ ?_
  intro p σ ρ hH hX hA hM0
  have hG := aAG_of hA.1 (fun i e v he hv => (hA.2 i e v he hv).1)
  clear hA
  obtain ⟨v0, v1, v2, v3, v4, rfl, g0, g1, g2, g3, g4⟩ := rA_5 hG
  clear hG
  obtain ⟨x0, rfl, b0, d0⟩ := rG_ref (by decide) g0
  obtain ⟨x1, rfl, b1, d1⟩ := aG_int g1
  dsimp only at b1 d1
  obtain ⟨x2, rfl, b2, d2⟩ := aG_int g2
  dsimp only at b2 d2
  obtain ⟨x3, rfl, b3, d3⟩ := aG_int g3
  dsimp only at b3 d3
  obtain ⟨x4, rfl, b4, d4⟩ := rG_ref (by decide) g4
  obtain ⟨m1, m2, m3, m4⟩ := hM0
  obtain ⟨M, hM⟩ := rMe_ex hH b0 d0
  obtain ⟨a0, c0, fs0, w0, e1, s0, t0, e4⟩ := m1 (0, 1, 4) (List.mem_of_getElem? (i := 0) rfl)
  obtain rfl : x0 = a0 := Sum.inl.inj (Option.some.inj (Sum.inr.inj (Sum.inr.inj (Option.some.inj (show some (rR x0) = some _ from e1)))))
  obtain rfl : rR x4 = w0 := Option.some.inj (show some (rR x4) = some w0 from e4)
  clear e1 e4
  obtain ⟨a1, c1, fs1, w1, e1, s1, t1, e4⟩ := m1 (0, 0, 3) (List.mem_of_getElem? (i := 1) rfl)
  obtain rfl : x0 = a1 := Sum.inl.inj (Option.some.inj (Sum.inr.inj (Sum.inr.inj (Option.some.inj (show some (rR x0) = some _ from e1)))))
  obtain rfl : rI x3 = w1 := Option.some.inj (show some (rI x3) = some w1 from e4)
  clear e1 e4
  obtain ⟨a, mc0, ty0, gc0, ic0, e1, sc0, jc0, e4, e5⟩ := m2 (4, ([(1, 1)], 0), 2) (List.mem_of_getElem? (i := 0) rfl)
  obtain rfl : x4 = a := Sum.inl.inj (Option.some.inj (Sum.inr.inj (Sum.inr.inj (Option.some.inj (show some (rR x4) = some _ from e1)))))
  obtain ⟨gc0, rfl⟩ : ∃ g, gc0 = .inl g := by
    rcases gc0 with g | g
    · exact ⟨g, rfl⟩
    · exact absurd (show some (rI x2) = some (.inr (.inl (g ic0))) from e5) (fun h => by cases h)
  have sc0 : σ x4 = .inl (ty0, mc0, .inl gc0) := sc0
  have ec0 : x2 = gc0 ic0 := Sum.inl.inj (Option.some.inj (show some (rI x2) = some _ from e5))
  have kc0 : (ic0 : Int) = (1 * x1.toInt + 0) + 0 := by
    obtain ⟨z, e6, e7⟩ := e4
    obtain rfl : (1 * x1.toInt + 0) = z := Option.some.inj (show some (1 * x1.toInt + 0) = some z from e6)
    exact e7
  clear e1 e4 e5
  have l0 : 0 ≤ (1 * x3.toInt + (-1 * x1.toInt + 0)) + -1 := by
    obtain ⟨z, e6, e7⟩ := m3 ([(3, 1), (1, -1)], -1) (List.mem_of_getElem? (i := 0) rfl)
    obtain rfl : (1 * x3.toInt + (-1 * x1.toInt + 0)) = z := Option.some.inj (show some (1 * x3.toInt + (-1 * x1.toInt + 0)) = some z from e6)
    exact e7
  clear m1 m2 m3 m4
  have q0 : rB K n p 189 [rR x0, rI x1, rI x2] σ := ro_189.mpr (by
    obtain ⟨g, h⟩ := rTx_ex hH b0 d0
    refine ⟨g, x3, h, ⟨b0, d0, _, _, s1, t1⟩, ?_⟩
    rw [if_pos (by omega)]
    obtain ⟨r, ⟨-, -, c', fs', e4, e5⟩, -, -, e6⟩ := h
    rw [s0] at e4
    cases e4
    rw [t0] at e5
    cases e5
    rw [sc0] at e6
    cases e6
    rw [ec0, show ic0 = x1.toInt.toNat by omega])
  exact ⟨p, fun _ => rfl, ⟨(fun q h => by cases h), fun q h => (by cases h), (fun f h => by cases h), (aAllc ⟨_, rfl, (rF_b (r := 3027) (by decide) rfl).mpr q0⟩ (fun f h => by cases h))⟩, [], List.mem_cons_self, fun f h => (by cases h)⟩
theorem rw_rvSGe {K : Nat → Nat} {n : Nat} {JX : (Nat → jcell) → Prop} : aGho (rF K n) fa_T K n JX ag_rvSGe := by
  refine aGho_of ⟨rfl, rfl⟩ ?_
  intro p σ ρ hH hX hA hM0
  have hG := aAG_of hA.1 (fun i e v he hv => (hA.2 i e v he hv).1)
  clear hA
  obtain ⟨v0, v1, v2, v3, rfl, g0, g1, g2, g3⟩ := rA_4 hG
  clear hG
  obtain ⟨x0, rfl, b0, d0⟩ := rG_ref (by decide) g0
  obtain ⟨x1, rfl, b1, d1⟩ := aG_int g1
  dsimp only at b1 d1
  obtain ⟨x2, rfl, b2, d2⟩ := aG_int g2
  dsimp only at b2 d2
  obtain ⟨x3, rfl, b3, d3⟩ := aG_int g3
  dsimp only at b3 d3
  obtain ⟨m1, m2, m3, m4⟩ := hM0
  obtain ⟨M, hM⟩ := rMe_ex hH b0 d0
  have f0 : rB K n p 189 [rR x0, rI x1, rI x2] σ := by
    obtain ⟨w, e6, e7⟩ := m4 (3027, [0, 1, 2]) (List.mem_of_getElem? (i := 0) rfl)
    obtain rfl : [rR x0, rI x1, rI x2] = w := Option.some.inj (show some [rR x0, rI x1, rI x2] = some w from e6)
    exact (rF_b (r := 3027) (by decide) rfl).mp e7
  have f0 := ro_189.mp f0
  have f1 : rB K n p 189 [rR x0, rI x1, rI x3] σ := by
    obtain ⟨w, e6, e7⟩ := m4 (3027, [0, 1, 3]) (List.mem_of_getElem? (i := 1) rfl)
    obtain rfl : [rR x0, rI x1, rI x3] = w := Option.some.inj (show some [rR x0, rI x1, rI x3] = some w from e6)
    exact (rF_b (r := 3027) (by decide) rfl).mp e7
  have f1 := ro_189.mp f1
  clear m1 m2 m3 m4
  have r0 : 0 ≤ (1 * x2.toInt + (-1 * x3.toInt + 0)) + 0 := by
    obtain ⟨g, t, h1, h2, h3⟩ := f0
    obtain ⟨g', t', k1, k2, k3⟩ := f1
    obtain rfl := rTx_u h1 k1
    cases rOb_u h2 k2
    omega
  have r1 : 0 ≤ (-1 * x2.toInt + (1 * x3.toInt + 0)) + 0 := by
    obtain ⟨g, t, h1, h2, h3⟩ := f0
    obtain ⟨g', t', k1, k2, k3⟩ := f1
    obtain rfl := rTx_u h1 k1
    cases rOb_u h2 k2
    omega
  exact ⟨p, fun _ => rfl, ⟨(fun q h => by cases h), fun q h => (by cases h), (aAllc ⟨_, rfl, r0⟩ (aAllc ⟨_, rfl, r1⟩ (fun f h => by cases h))), (fun f h => by cases h)⟩, [], List.mem_cons_self, fun f h => (by cases h)⟩
theorem rw_rvSGa {K : Nat → Nat} {n : Nat} {JX : (Nat → jcell) → Prop} : aGho (rF K n) fa_T K n JX ag_rvSGa := by
  refine aGho_of ⟨rfl, rfl⟩ ?_
  intro p σ ρ hH hX hA hM0
  have hG := aAG_of hA.1 (fun i e v he hv => (hA.2 i e v he hv).1)
  clear hA
  obtain ⟨v0, rfl, g0⟩ := rA_1 hG
  clear hG
  obtain ⟨x0, rfl, b0, d0⟩ := aG_int g0
  dsimp only at b0 d0
  obtain ⟨m1, m2, m3, m4⟩ := hM0
  clear m1 m2 m3 m4
  have q0 : rB K n p 190 [rI x0] σ := ro_190.mpr (by
    trivial)
  exact ⟨p, fun _ => rfl, ⟨(fun q h => by cases h), fun q h => (by cases h), (fun f h => by cases h), (aAllc ⟨_, rfl, (rF_b (r := 3041) (by decide) rfl).mpr q0⟩ (fun f h => by cases h))⟩, [], List.mem_cons_self, fun f h => (by cases h)⟩
theorem rw_rvSGb {K : Nat → Nat} {n : Nat} {JX : (Nat → jcell) → Prop} : aGho (rF K n) fa_T K n JX ag_rvSGb := by
  refine aGho_of ⟨rfl, rfl⟩ ?_
  intro p σ ρ hH hX hA hM0
  have hG := aAG_of hA.1 (fun i e v he hv => (hA.2 i e v he hv).1)
  clear hA
  obtain ⟨v0, rfl, g0⟩ := rA_1 hG
  clear hG
  obtain ⟨x0, rfl, b0, d0⟩ := aG_int g0
  dsimp only at b0 d0
  obtain ⟨m1, m2, m3, m4⟩ := hM0
  clear m1 m2 m3 m4
  have q0 : rB K n p 191 [rI x0] σ := ro_191.mpr (by
    trivial)
  exact ⟨p, fun _ => rfl, ⟨(fun q h => by cases h), fun q h => (by cases h), (fun f h => by cases h), (aAllc ⟨_, rfl, (rF_b (r := 3057) (by decide) rfl).mpr q0⟩ (fun f h => by cases h))⟩, [], List.mem_cons_self, fun f h => (by cases h)⟩
theorem rw_rvDG {K : Nat → Nat} {n : Nat} {JX : (Nat → jcell) → Prop} : aGho (rF K n) fa_T K n JX ag_rvDG := by
  refine aGho_of ⟨rfl, rfl⟩ ?_
  intro p σ ρ hH hX hA hM0
  have hG := aAG_of hA.1 (fun i e v he hv => (hA.2 i e v he hv).1)
  clear hA
  obtain ⟨v0, rfl, g0⟩ := rA_1 hG
  clear hG
  obtain ⟨x0, rfl, b0, d0⟩ := aG_int g0
  dsimp only at b0 d0
  obtain ⟨m1, m2, m3, m4⟩ := hM0
  have l0 : 0 ≤ (1 * x0.toInt + 0) + -48 := by
    obtain ⟨z, e6, e7⟩ := m3 ([(0, 1)], -48) (List.mem_of_getElem? (i := 0) rfl)
    obtain rfl : (1 * x0.toInt + 0) = z := Option.some.inj (show some (1 * x0.toInt + 0) = some z from e6)
    exact e7
  have l1 : 0 ≤ (-1 * x0.toInt + 0) + 57 := by
    obtain ⟨z, e6, e7⟩ := m3 ([(0, -1)], 57) (List.mem_of_getElem? (i := 1) rfl)
    obtain rfl : (-1 * x0.toInt + 0) = z := Option.some.inj (show some (-1 * x0.toInt + 0) = some z from e6)
    exact e7
  clear m1 m2 m3 m4
  have r0 : 0 ≤ (1 * x0.toInt + 0) + -48 := by
    omega
  have r1 : 0 ≤ (-1 * x0.toInt + 0) + 57 := by
    omega
  exact ⟨p, fun _ => rfl, ⟨(fun q h => by cases h), fun q h => (by cases h), (aAllc ⟨_, rfl, r0⟩ (aAllc ⟨_, rfl, r1⟩ (fun f h => by cases h))), (fun f h => by cases h)⟩, [], List.mem_cons_self, fun f h => (by cases h)⟩
theorem rw_rvC10 {K : Nat → Nat} {n : Nat} {JX : (Nat → jcell) → Prop} : aGho (rF K n) fa_T K n JX ag_rvC10 := by
  refine aGho_of ⟨rfl, rfl⟩ ?_
  intro p σ ρ hH hX hA hM0
  have hG := aAG_of hA.1 (fun i e v he hv => (hA.2 i e v he hv).1)
  clear hA
  obtain ⟨v0, v1, v2, v3, rfl, g0, g1, g2, g3⟩ := rA_4 hG
  clear hG
  obtain ⟨x0, rfl, b0, d0⟩ := rG_ref (by decide) g0
  obtain ⟨x1, rfl, b1, d1⟩ := aG_int g1
  dsimp only at b1 d1
  obtain ⟨x2, rfl, b2, d2⟩ := aG_int g2
  dsimp only at b2 d2
  obtain ⟨x3, rfl, b3, d3⟩ := aG_int g3
  dsimp only at b3 d3
  obtain ⟨m1, m2, m3, m4⟩ := hM0
  obtain ⟨M, hM⟩ := rMe_ex hH b0 d0
  clear m1 m2 m3 m4
  have q0 : rB K n p 192 [rR x0, rI x1, rI x2, rI x3] σ := ro_192.mpr ⟨_, hM, by
    rw [show x2.toInt.toNat = 0 by omega]
    show x3.toInt = 0
    omega⟩
  exact ⟨p, fun _ => rfl, ⟨(fun q h => by cases h), fun q h => (by cases h), (fun f h => by cases h), (aAllc ⟨_, rfl, (rF_b (r := 3076) (by decide) rfl).mpr q0⟩ (fun f h => by cases h))⟩, [], List.mem_cons_self, fun f h => (by cases h)⟩
theorem rw_rvC1y {K : Nat → Nat} {n : Nat} {JX : (Nat → jcell) → Prop} : aGho (rF K n) fa_T K n JX ag_rvC1y := by
  refine aGho_of ⟨rfl, rfl⟩ ?_
  intro p σ ρ hH hX hA hM0
  have hG := aAG_of hA.1 (fun i e v he hv => (hA.2 i e v he hv).1)
  clear hA
  obtain ⟨v0, v1, v2, v3, v4, v5, v6, rfl, g0, g1, g2, g3, g4, g5, g6⟩ := rA_7 hG
  clear hG
  obtain ⟨x0, rfl, b0, d0⟩ := rG_ref (by decide) g0
  obtain ⟨x1, rfl, b1, d1⟩ := aG_int g1
  dsimp only at b1 d1
  obtain ⟨x2, rfl, b2, d2⟩ := aG_int g2
  dsimp only at b2 d2
  obtain ⟨x3, rfl, b3, d3⟩ := aG_int g3
  dsimp only at b3 d3
  obtain ⟨x4, rfl, b4, d4⟩ := aG_int g4
  dsimp only at b4 d4
  obtain ⟨x5, rfl, b5, d5⟩ := aG_int g5
  dsimp only at b5 d5
  obtain ⟨x6, rfl, b6, d6⟩ := rG_ref (by decide) g6
  obtain ⟨m1, m2, m3, m4⟩ := hM0
  obtain ⟨M, hM⟩ := rMe_ex hH b0 d0
  obtain ⟨a0, c0, fs0, w0, e1, s0, t0, e4⟩ := m1 (0, 2, 6) (List.mem_of_getElem? (i := 0) rfl)
  obtain rfl : x0 = a0 := Sum.inl.inj (Option.some.inj (Sum.inr.inj (Sum.inr.inj (Option.some.inj (show some (rR x0) = some _ from e1)))))
  obtain rfl : rR x6 = w0 := Option.some.inj (show some (rR x6) = some w0 from e4)
  clear e1 e4
  obtain ⟨a, mc0, ty0, gc0, ic0, e1, sc0, jc0, e4, e5⟩ := m2 (6, ([(2, 1)], 0), 3) (List.mem_of_getElem? (i := 0) rfl)
  obtain rfl : x6 = a := Sum.inl.inj (Option.some.inj (Sum.inr.inj (Sum.inr.inj (Option.some.inj (show some (rR x6) = some _ from e1)))))
  obtain ⟨gc0, rfl⟩ : ∃ g, gc0 = .inl g := by
    rcases gc0 with g | g
    · exact ⟨g, rfl⟩
    · exact absurd (show some (rI x3) = some (.inr (.inl (g ic0))) from e5) (fun h => by cases h)
  have sc0 : σ x6 = .inl (ty0, mc0, .inl gc0) := sc0
  have ec0 : x3 = gc0 ic0 := Sum.inl.inj (Option.some.inj (show some (rI x3) = some _ from e5))
  have kc0 : (ic0 : Int) = (1 * x2.toInt + 0) + 0 := by
    obtain ⟨z, e6, e7⟩ := e4
    obtain rfl : (1 * x2.toInt + 0) = z := Option.some.inj (show some (1 * x2.toInt + 0) = some z from e6)
    exact e7
  clear e1 e4 e5
  have l0 : 0 ≤ (1 * x1.toInt + (-1 * x3.toInt + 0)) + 0 := by
    obtain ⟨z, e6, e7⟩ := m3 ([(1, 1), (3, -1)], 0) (List.mem_of_getElem? (i := 0) rfl)
    obtain rfl : (1 * x1.toInt + (-1 * x3.toInt + 0)) = z := Option.some.inj (show some (1 * x1.toInt + (-1 * x3.toInt + 0)) = some z from e6)
    exact e7
  have l1 : 0 ≤ (-1 * x1.toInt + (1 * x3.toInt + 0)) + 0 := by
    obtain ⟨z, e6, e7⟩ := m3 ([(1, -1), (3, 1)], 0) (List.mem_of_getElem? (i := 1) rfl)
    obtain rfl : (-1 * x1.toInt + (1 * x3.toInt + 0)) = z := Option.some.inj (show some (-1 * x1.toInt + (1 * x3.toInt + 0)) = some z from e6)
    exact e7
  have l2 : 0 ≤ (1 * x5.toInt + (-1 * x4.toInt + 0)) + -1 := by
    obtain ⟨z, e6, e7⟩ := m3 ([(5, 1), (4, -1)], -1) (List.mem_of_getElem? (i := 2) rfl)
    obtain rfl : (1 * x5.toInt + (-1 * x4.toInt + 0)) = z := Option.some.inj (show some (1 * x5.toInt + (-1 * x4.toInt + 0)) = some z from e6)
    exact e7
  have l3 : 0 ≤ (-1 * x5.toInt + (1 * x4.toInt + 0)) + 1 := by
    obtain ⟨z, e6, e7⟩ := m3 ([(5, -1), (4, 1)], 1) (List.mem_of_getElem? (i := 3) rfl)
    obtain rfl : (-1 * x5.toInt + (1 * x4.toInt + 0)) = z := Option.some.inj (show some (-1 * x5.toInt + (1 * x4.toInt + 0)) = some z from e6)
    exact e7
  have y0 : M x2.toInt = x3.toInt := rMg_c hM s0 t0 sc0 (by omega) (by omega) (by omega) ec0
  have f0 : rB K n p 192 [rR x0, rI x1, rI x2, rI x4] σ := by
    obtain ⟨w, e6, e7⟩ := m4 (3076, [0, 1, 2, 4]) (List.mem_of_getElem? (i := 0) rfl)
    obtain rfl : [rR x0, rI x1, rI x2, rI x4] = w := Option.some.inj (show some [rR x0, rI x1, rI x2, rI x4] = some w from e6)
    exact (rF_b (r := 3076) (by decide) rfl).mp e7
  obtain ⟨M9, h9, f0⟩ := ro_192.mp f0
  obtain rfl := rMg_u hM h9
  clear h9
  clear m1 m2 m3 m4
  have q0 : rB K n p 193 [rR x0, rI x1, rI x2, rI x5] σ := ro_193_4.mpr ⟨_, hM, by
    rw [show (x2.toInt + 1).toNat = x2.toInt.toNat + 1 by omega]
    unfold rCnt
    rw [show ((x2.toInt.toNat : Nat) : Int) = x2.toInt by omega, y0, if_pos (by omega)]
    omega⟩
  exact ⟨p, fun _ => rfl, ⟨(fun q h => by cases h), fun q h => (by cases h), (fun f h => by cases h), (aAllc ⟨_, rfl, (rF_b (r := 3092) (by decide) rfl).mpr q0⟩ (fun f h => by cases h))⟩, [], List.mem_cons_self, fun f h => (by cases h)⟩
theorem rw_rvC1nu {K : Nat → Nat} {n : Nat} {JX : (Nat → jcell) → Prop} : aGho (rF K n) fa_T K n JX ag_rvC1nu := by
  refine aGho_of ⟨rfl, rfl⟩ ?_
  intro p σ ρ hH hX hA hM0
  have hG := aAG_of hA.1 (fun i e v he hv => (hA.2 i e v he hv).1)
  clear hA
  obtain ⟨v0, v1, v2, v3, v4, v5, rfl, g0, g1, g2, g3, g4, g5⟩ := rA_6 hG
  clear hG
  obtain ⟨x0, rfl, b0, d0⟩ := rG_ref (by decide) g0
  obtain ⟨x1, rfl, b1, d1⟩ := aG_int g1
  dsimp only at b1 d1
  obtain ⟨x2, rfl, b2, d2⟩ := aG_int g2
  dsimp only at b2 d2
  obtain ⟨x3, rfl, b3, d3⟩ := aG_int g3
  dsimp only at b3 d3
  obtain ⟨x4, rfl, b4, d4⟩ := aG_int g4
  dsimp only at b4 d4
  obtain ⟨x5, rfl, b5, d5⟩ := rG_ref (by decide) g5
  obtain ⟨m1, m2, m3, m4⟩ := hM0
  obtain ⟨M, hM⟩ := rMe_ex hH b0 d0
  obtain ⟨a0, c0, fs0, w0, e1, s0, t0, e4⟩ := m1 (0, 2, 5) (List.mem_of_getElem? (i := 0) rfl)
  obtain rfl : x0 = a0 := Sum.inl.inj (Option.some.inj (Sum.inr.inj (Sum.inr.inj (Option.some.inj (show some (rR x0) = some _ from e1)))))
  obtain rfl : rR x5 = w0 := Option.some.inj (show some (rR x5) = some w0 from e4)
  clear e1 e4
  obtain ⟨a, mc0, ty0, gc0, ic0, e1, sc0, jc0, e4, e5⟩ := m2 (5, ([(2, 1)], 0), 3) (List.mem_of_getElem? (i := 0) rfl)
  obtain rfl : x5 = a := Sum.inl.inj (Option.some.inj (Sum.inr.inj (Sum.inr.inj (Option.some.inj (show some (rR x5) = some _ from e1)))))
  obtain ⟨gc0, rfl⟩ : ∃ g, gc0 = .inl g := by
    rcases gc0 with g | g
    · exact ⟨g, rfl⟩
    · exact absurd (show some (rI x3) = some (.inr (.inl (g ic0))) from e5) (fun h => by cases h)
  have sc0 : σ x5 = .inl (ty0, mc0, .inl gc0) := sc0
  have ec0 : x3 = gc0 ic0 := Sum.inl.inj (Option.some.inj (show some (rI x3) = some _ from e5))
  have kc0 : (ic0 : Int) = (1 * x2.toInt + 0) + 0 := by
    obtain ⟨z, e6, e7⟩ := e4
    obtain rfl : (1 * x2.toInt + 0) = z := Option.some.inj (show some (1 * x2.toInt + 0) = some z from e6)
    exact e7
  clear e1 e4 e5
  have l0 : 0 ≤ (1 * x1.toInt + (-1 * x3.toInt + 0)) + -1 := by
    obtain ⟨z, e6, e7⟩ := m3 ([(1, 1), (3, -1)], -1) (List.mem_of_getElem? (i := 0) rfl)
    obtain rfl : (1 * x1.toInt + (-1 * x3.toInt + 0)) = z := Option.some.inj (show some (1 * x1.toInt + (-1 * x3.toInt + 0)) = some z from e6)
    exact e7
  have y0 : M x2.toInt = x3.toInt := rMg_c hM s0 t0 sc0 (by omega) (by omega) (by omega) ec0
  have f0 : rB K n p 192 [rR x0, rI x1, rI x2, rI x4] σ := by
    obtain ⟨w, e6, e7⟩ := m4 (3076, [0, 1, 2, 4]) (List.mem_of_getElem? (i := 0) rfl)
    obtain rfl : [rR x0, rI x1, rI x2, rI x4] = w := Option.some.inj (show some [rR x0, rI x1, rI x2, rI x4] = some w from e6)
    exact (rF_b (r := 3076) (by decide) rfl).mp e7
  obtain ⟨M9, h9, f0⟩ := ro_192.mp f0
  obtain rfl := rMg_u hM h9
  clear h9
  clear m1 m2 m3 m4
  have q0 : rB K n p 193 [rR x0, rI x1, rI x2, rI x4] σ := ro_193_4.mpr ⟨_, hM, by
    rw [show (x2.toInt + 1).toNat = x2.toInt.toNat + 1 by omega]
    unfold rCnt
    rw [show ((x2.toInt.toNat : Nat) : Int) = x2.toInt by omega, y0, if_neg (by omega)]
    omega⟩
  exact ⟨p, fun _ => rfl, ⟨(fun q h => by cases h), fun q h => (by cases h), (fun f h => by cases h), (aAllc ⟨_, rfl, (rF_b (r := 3092) (by decide) rfl).mpr q0⟩ (fun f h => by cases h))⟩, [], List.mem_cons_self, fun f h => (by cases h)⟩
theorem rw_rvC1nd {K : Nat → Nat} {n : Nat} {JX : (Nat → jcell) → Prop} : aGho (rF K n) fa_T K n JX ag_rvC1nd := by
  refine aGho_of ⟨rfl, rfl⟩ ?_
  intro p σ ρ hH hX hA hM0
  have hG := aAG_of hA.1 (fun i e v he hv => (hA.2 i e v he hv).1)
  clear hA
  obtain ⟨v0, v1, v2, v3, v4, v5, rfl, g0, g1, g2, g3, g4, g5⟩ := rA_6 hG
  clear hG
  obtain ⟨x0, rfl, b0, d0⟩ := rG_ref (by decide) g0
  obtain ⟨x1, rfl, b1, d1⟩ := aG_int g1
  dsimp only at b1 d1
  obtain ⟨x2, rfl, b2, d2⟩ := aG_int g2
  dsimp only at b2 d2
  obtain ⟨x3, rfl, b3, d3⟩ := aG_int g3
  dsimp only at b3 d3
  obtain ⟨x4, rfl, b4, d4⟩ := aG_int g4
  dsimp only at b4 d4
  obtain ⟨x5, rfl, b5, d5⟩ := rG_ref (by decide) g5
  obtain ⟨m1, m2, m3, m4⟩ := hM0
  obtain ⟨M, hM⟩ := rMe_ex hH b0 d0
  obtain ⟨a0, c0, fs0, w0, e1, s0, t0, e4⟩ := m1 (0, 2, 5) (List.mem_of_getElem? (i := 0) rfl)
  obtain rfl : x0 = a0 := Sum.inl.inj (Option.some.inj (Sum.inr.inj (Sum.inr.inj (Option.some.inj (show some (rR x0) = some _ from e1)))))
  obtain rfl : rR x5 = w0 := Option.some.inj (show some (rR x5) = some w0 from e4)
  clear e1 e4
  obtain ⟨a, mc0, ty0, gc0, ic0, e1, sc0, jc0, e4, e5⟩ := m2 (5, ([(2, 1)], 0), 3) (List.mem_of_getElem? (i := 0) rfl)
  obtain rfl : x5 = a := Sum.inl.inj (Option.some.inj (Sum.inr.inj (Sum.inr.inj (Option.some.inj (show some (rR x5) = some _ from e1)))))
  obtain ⟨gc0, rfl⟩ : ∃ g, gc0 = .inl g := by
    rcases gc0 with g | g
    · exact ⟨g, rfl⟩
    · exact absurd (show some (rI x3) = some (.inr (.inl (g ic0))) from e5) (fun h => by cases h)
  have sc0 : σ x5 = .inl (ty0, mc0, .inl gc0) := sc0
  have ec0 : x3 = gc0 ic0 := Sum.inl.inj (Option.some.inj (show some (rI x3) = some _ from e5))
  have kc0 : (ic0 : Int) = (1 * x2.toInt + 0) + 0 := by
    obtain ⟨z, e6, e7⟩ := e4
    obtain rfl : (1 * x2.toInt + 0) = z := Option.some.inj (show some (1 * x2.toInt + 0) = some z from e6)
    exact e7
  clear e1 e4 e5
  have l0 : 0 ≤ (-1 * x1.toInt + (1 * x3.toInt + 0)) + -1 := by
    obtain ⟨z, e6, e7⟩ := m3 ([(1, -1), (3, 1)], -1) (List.mem_of_getElem? (i := 0) rfl)
    obtain rfl : (-1 * x1.toInt + (1 * x3.toInt + 0)) = z := Option.some.inj (show some (-1 * x1.toInt + (1 * x3.toInt + 0)) = some z from e6)
    exact e7
  have y0 : M x2.toInt = x3.toInt := rMg_c hM s0 t0 sc0 (by omega) (by omega) (by omega) ec0
  have f0 : rB K n p 192 [rR x0, rI x1, rI x2, rI x4] σ := by
    obtain ⟨w, e6, e7⟩ := m4 (3076, [0, 1, 2, 4]) (List.mem_of_getElem? (i := 0) rfl)
    obtain rfl : [rR x0, rI x1, rI x2, rI x4] = w := Option.some.inj (show some [rR x0, rI x1, rI x2, rI x4] = some w from e6)
    exact (rF_b (r := 3076) (by decide) rfl).mp e7
  obtain ⟨M9, h9, f0⟩ := ro_192.mp f0
  obtain rfl := rMg_u hM h9
  clear h9
  clear m1 m2 m3 m4
  have q0 : rB K n p 193 [rR x0, rI x1, rI x2, rI x4] σ := ro_193_4.mpr ⟨_, hM, by
    rw [show (x2.toInt + 1).toNat = x2.toInt.toNat + 1 by omega]
    unfold rCnt
    rw [show ((x2.toInt.toNat : Nat) : Int) = x2.toInt by omega, y0, if_neg (by omega)]
    omega⟩
  exact ⟨p, fun _ => rfl, ⟨(fun q h => by cases h), fun q h => (by cases h), (fun f h => by cases h), (aAllc ⟨_, rfl, (rF_b (r := 3092) (by decide) rfl).mpr q0⟩ (fun f h => by cases h))⟩, [], List.mem_cons_self, fun f h => (by cases h)⟩
theorem rw_rvC1s {K : Nat → Nat} {n : Nat} {JX : (Nat → jcell) → Prop} : aGho (rF K n) fa_T K n JX ag_rvC1s := by
  refine aGho_of ⟨rfl, rfl⟩ ?_
  intro p σ ρ hH hX hA hM0
  have hG := aAG_of hA.1 (fun i e v he hv => (hA.2 i e v he hv).1)
  clear hA
  obtain ⟨v0, v1, v2, v3, v4, rfl, g0, g1, g2, g3, g4⟩ := rA_5 hG
  clear hG
  obtain ⟨x0, rfl, b0, d0⟩ := rG_ref (by decide) g0
  obtain ⟨x1, rfl, b1, d1⟩ := aG_int g1
  dsimp only at b1 d1
  obtain ⟨x2, rfl, b2, d2⟩ := aG_int g2
  dsimp only at b2 d2
  obtain ⟨x3, rfl, b3, d3⟩ := aG_int g3
  dsimp only at b3 d3
  obtain ⟨x4, rfl, b4, d4⟩ := aG_int g4
  dsimp only at b4 d4
  obtain ⟨m1, m2, m3, m4⟩ := hM0
  obtain ⟨M, hM⟩ := rMe_ex hH b0 d0
  have l0 : 0 ≤ (1 * x4.toInt + (-1 * x2.toInt + 0)) + -1 := by
    obtain ⟨z, e6, e7⟩ := m3 ([(4, 1), (2, -1)], -1) (List.mem_of_getElem? (i := 0) rfl)
    obtain rfl : (1 * x4.toInt + (-1 * x2.toInt + 0)) = z := Option.some.inj (show some (1 * x4.toInt + (-1 * x2.toInt + 0)) = some z from e6)
    exact e7
  have l1 : 0 ≤ (-1 * x4.toInt + (1 * x2.toInt + 0)) + 1 := by
    obtain ⟨z, e6, e7⟩ := m3 ([(4, -1), (2, 1)], 1) (List.mem_of_getElem? (i := 1) rfl)
    obtain rfl : (-1 * x4.toInt + (1 * x2.toInt + 0)) = z := Option.some.inj (show some (-1 * x4.toInt + (1 * x2.toInt + 0)) = some z from e6)
    exact e7
  have f0 : rB K n p 193 [rR x0, rI x1, rI x2, rI x3] σ := by
    obtain ⟨w, e6, e7⟩ := m4 (3092, [0, 1, 2, 3]) (List.mem_of_getElem? (i := 0) rfl)
    obtain rfl : [rR x0, rI x1, rI x2, rI x3] = w := Option.some.inj (show some [rR x0, rI x1, rI x2, rI x3] = some w from e6)
    exact (rF_b (r := 3092) (by decide) rfl).mp e7
  obtain ⟨M9, h9, f0⟩ := ro_193_4.mp f0
  obtain rfl := rMg_u hM h9
  clear h9
  clear m1 m2 m3 m4
  have q0 : rB K n p 192 [rR x0, rI x1, rI x4, rI x3] σ := ro_192.mpr ⟨_, hM, by
    rw [show x4.toInt = x2.toInt + 1 by omega]
    exact f0⟩
  exact ⟨p, fun _ => rfl, ⟨(fun q h => by cases h), fun q h => (by cases h), (fun f h => by cases h), (aAllc ⟨_, rfl, (rF_b (r := 3076) (by decide) rfl).mpr q0⟩ (fun f h => by cases h))⟩, [], List.mem_cons_self, fun f h => (by cases h)⟩
theorem rw_rvC1e {K : Nat → Nat} {n : Nat} {JX : (Nat → jcell) → Prop} : aGho (rF K n) fa_T K n JX ag_rvC1e := by
  refine aGho_of ⟨rfl, rfl⟩ ?_
  intro p σ ρ hH hX hA hM0
  have hG := aAG_of hA.1 (fun i e v he hv => (hA.2 i e v he hv).1)
  clear hA
  obtain ⟨v0, v1, v2, v3, rfl, g0, g1, g2, g3⟩ := rA_4 hG
  clear hG
  obtain ⟨x0, rfl, b0, d0⟩ := rG_ref (by decide) g0
  obtain ⟨x1, rfl, b1, d1⟩ := aG_int g1
  dsimp only at b1 d1
  obtain ⟨x2, rfl, b2, d2⟩ := aG_int g2
  dsimp only at b2 d2
  obtain ⟨x3, rfl, b3, d3⟩ := aG_int g3
  dsimp only at b3 d3
  obtain ⟨m1, m2, m3, m4⟩ := hM0
  obtain ⟨M, hM⟩ := rMe_ex hH b0 d0
  have f0 : rB K n p 192 [rR x0, rI x1, rI x2, rI x3] σ := by
    obtain ⟨w, e6, e7⟩ := m4 (3076, [0, 1, 2, 3]) (List.mem_of_getElem? (i := 0) rfl)
    obtain rfl : [rR x0, rI x1, rI x2, rI x3] = w := Option.some.inj (show some [rR x0, rI x1, rI x2, rI x3] = some w from e6)
    exact (rF_b (r := 3076) (by decide) rfl).mp e7
  obtain ⟨M9, h9, f0⟩ := ro_192.mp f0
  obtain rfl := rMg_u hM h9
  clear h9
  clear m1 m2 m3 m4
  have q0 : rB K n p 194 [rR x0, rI x1, rI x3] σ := ro_194.mpr ⟨_, hM, by
    rw [show x2.toInt.toNat = 64 by omega] at f0
    exact f0⟩
  exact ⟨p, fun _ => rfl, ⟨(fun q h => by cases h), fun q h => (by cases h), (fun f h => by cases h), (aAllc ⟨_, rfl, (rF_b (r := 3107) (by decide) rfl).mpr q0⟩ (fun f h => by cases h))⟩, [], List.mem_cons_self, fun f h => (by cases h)⟩
theorem rw_rvCO6 {K : Nat → Nat} {n : Nat} {JX : (Nat → jcell) → Prop} : aGho (rF K n) fa_T K n JX ag_rvCO6 := by
  refine aGho_of ⟨rfl, rfl⟩ ?_
  intro p σ ρ hH hX hA hM0
  have hG := aAG_of hA.1 (fun i e v he hv => (hA.2 i e v he hv).1)
  clear hA
  obtain ⟨v0, v1, v2, rfl, g0, g1, g2⟩ := rA_3 hG
  clear hG
  obtain ⟨x0, rfl, b0, d0⟩ := rG_ref (by decide) g0
  obtain ⟨x1, rfl, b1, d1⟩ := aG_int g1
  dsimp only at b1 d1
  obtain ⟨x2, rfl, b2, d2⟩ := aG_int g2
  dsimp only at b2 d2
  obtain ⟨m1, m2, m3, m4⟩ := hM0
  obtain ⟨M, hM⟩ := rMe_ex hH b0 d0
  have f0 : rB K n p 194 [rR x0, rI x1, rI x2] σ := by
    obtain ⟨w, e6, e7⟩ := m4 (3107, [0, 1, 2]) (List.mem_of_getElem? (i := 0) rfl)
    obtain rfl : [rR x0, rI x1, rI x2] = w := Option.some.inj (show some [rR x0, rI x1, rI x2] = some w from e6)
    exact (rF_b (r := 3107) (by decide) rfl).mp e7
  obtain ⟨M9, h9, f0⟩ := ro_194.mp f0
  obtain rfl := rMg_u hM h9
  clear h9
  clear m1 m2 m3 m4
  have q0 : rB K n p 193 [rR x0] σ := ro_193_1.mpr ⟨_, hM, by
    rw [show x1.toInt = 6 by omega] at f0
    omega⟩
  exact ⟨p, fun _ => rfl, ⟨(fun q h => by cases h), fun q h => (by cases h), (fun f h => by cases h), (aAllc ⟨_, rfl, (rF_b (r := 3089) (by decide) rfl).mpr q0⟩ (fun f h => by cases h))⟩, [], List.mem_cons_self, fun f h => (by cases h)⟩
theorem rw_rvHKd {K : Nat → Nat} {n : Nat} {JX : (Nat → jcell) → Prop} : aGho (rF K n) fa_T K n JX ag_rvHKd := by
  refine aGho_of ⟨rfl, rfl⟩ ?_
  intro p σ ρ hH hX hA hM0
  have hG := aAG_of hA.1 (fun i e v he hv => (hA.2 i e v he hv).1)
  clear hA
  obtain ⟨v0, v1, v2, rfl, g0, g1, g2⟩ := rA_3 hG
  clear hG
  obtain ⟨x0, rfl, b0, d0⟩ := rG_ref (by decide) g0
  obtain ⟨x1, rfl, b1, d1⟩ := aG_int g1
  dsimp only at b1 d1
  obtain ⟨x2, rfl, b2, d2⟩ := aG_int g2
  dsimp only at b2 d2
  obtain ⟨m1, m2, m3, m4⟩ := hM0
  obtain ⟨M, hM⟩ := rMe_ex hH b0 d0
  have f0 : rB K n p 194 [rR x0, rI x1, rI x2] σ := by
    obtain ⟨w, e6, e7⟩ := m4 (3107, [0, 1, 2]) (List.mem_of_getElem? (i := 0) rfl)
    obtain rfl : [rR x0, rI x1, rI x2] = w := Option.some.inj (show some [rR x0, rI x1, rI x2] = some w from e6)
    exact (rF_b (r := 3107) (by decide) rfl).mp e7
  obtain ⟨M9, h9, f0⟩ := ro_194.mp f0
  obtain rfl := rMg_u hM h9
  clear h9
  have f1 : rB K n p 193 [rR x0] σ := by
    obtain ⟨w, e6, e7⟩ := m4 (3089, [0]) (List.mem_of_getElem? (i := 1) rfl)
    obtain rfl : [rR x0] = w := Option.some.inj (show some [rR x0] = some w from e6)
    exact (rF_b (r := 3089) (by decide) rfl).mp e7
  obtain ⟨M9, h9, f1⟩ := ro_193_1.mp f1
  obtain rfl := rMg_u hM h9
  clear h9
  clear m1 m2 m3 m4
  have q0 : rB K n p 139 [rR x0] σ := ro_139.mpr ⟨_, hM, by
    rw [show x1.toInt = 14 by omega] at f0
    exact rKs_of hM f1 (by omega)⟩
  exact ⟨p, fun _ => rfl, ⟨(fun q h => by cases h), fun q h => (by cases h), (fun f h => by cases h), (aAllc ⟨_, rfl, (rF_b (r := 2225) (by decide) rfl).mpr q0⟩ (fun f h => by cases h))⟩, [], List.mem_cons_self, fun f h => (by cases h)⟩
theorem rw_rvPS1 {K : Nat → Nat} {n : Nat} {JX : (Nat → jcell) → Prop} : aGho (rF K n) fa_T K n JX ag_rvPS1 := by
  refine aGho_of ⟨rfl, rfl⟩ ?_
  intro p σ ρ hH hX hA hM0
  have hG := aAG_of hA.1 (fun i e v he hv => (hA.2 i e v he hv).1)
  clear hA
  obtain ⟨v0, v1, rfl, g0, g1⟩ := rA_2 hG
  clear hG
  obtain ⟨x0, rfl, b0, d0⟩ := rG_ref (by decide) g0
  obtain ⟨x1, rfl, b1, d1⟩ := aG_int g1
  dsimp only at b1 d1
  obtain ⟨m1, m2, m3, m4⟩ := hM0
  obtain ⟨M, hM⟩ := rMe_ex hH b0 d0
  clear m1 m2 m3 m4
  have q0 : rB K n p 195 [rR x0, rI x1] σ := ro_195.mpr (by
    intro h
    omega)
  exact ⟨p, fun _ => rfl, ⟨(fun q h => by cases h), fun q h => (by cases h), (fun f h => by cases h), (aAllc ⟨_, rfl, (rF_b (r := 3122) (by decide) rfl).mpr q0⟩ (fun f h => by cases h))⟩, [], List.mem_cons_self, fun f h => (by cases h)⟩
theorem rw_rvPS0 {K : Nat → Nat} {n : Nat} {JX : (Nat → jcell) → Prop} : aGho (rF K n) fa_T K n JX ag_rvPS0 := by
  refine aGho_of ⟨rfl, rfl⟩ ?_
  intro p σ ρ hH hX hA hM0
  have hG := aAG_of hA.1 (fun i e v he hv => (hA.2 i e v he hv).1)
  clear hA
  obtain ⟨v0, v1, v2, rfl, g0, g1, g2⟩ := rA_3 hG
  clear hG
  obtain ⟨x0, rfl, b0, d0⟩ := rG_ref (by decide) g0
  obtain ⟨x1, rfl, b1, d1⟩ := aG_int g1
  dsimp only at b1 d1
  obtain ⟨x2, rfl, b2, d2⟩ := aG_int g2
  dsimp only at b2 d2
  obtain ⟨m1, m2, m3, m4⟩ := hM0
  obtain ⟨M, hM⟩ := rMe_ex hH b0 d0
  obtain ⟨a0, c0, fs0, w0, e1, s0, t0, e4⟩ := m1 (0, 5, 2) (List.mem_of_getElem? (i := 0) rfl)
  obtain rfl : x0 = a0 := Sum.inl.inj (Option.some.inj (Sum.inr.inj (Sum.inr.inj (Option.some.inj (show some (rR x0) = some _ from e1)))))
  obtain rfl : rI x2 = w0 := Option.some.inj (show some (rI x2) = some w0 from e4)
  clear e1 e4
  clear m1 m2 m3 m4
  have q0 : rB K n p 195 [rR x0, rI x1] σ := ro_195.mpr (by
    intro _
    obtain ⟨v, o⟩ := rOb_i (k := 88) (f := 3) hH b0 d0 rfl rfl
    exact ⟨M, v, x2, hM, o, ⟨b0, d0, _, _, s0, t0⟩, Or.inl (by show x2.toInt = -1; omega)⟩)
  exact ⟨p, fun _ => rfl, ⟨(fun q h => by cases h), fun q h => (by cases h), (fun f h => by cases h), (aAllc ⟨_, rfl, (rF_b (r := 3122) (by decide) rfl).mpr q0⟩ (fun f h => by cases h))⟩, [], List.mem_cons_self, fun f h => (by cases h)⟩
theorem rw_rvPSy0 {K : Nat → Nat} {n : Nat} {JX : (Nat → jcell) → Prop} : aGho (rF K n) fa_T K n JX ag_rvPSy0 := by
  refine aGho_of ⟨rfl, rfl⟩ ?_
  intro p σ ρ hH hX hA hM0
  have hG := aAG_of hA.1 (fun i e v he hv => (hA.2 i e v he hv).1)
  clear hA
  obtain ⟨v0, v1, v2, v3, v4, v5, v6, v7, rfl, g0, g1, g2, g3, g4, g5, g6, g7⟩ := rA_8 hG
  clear hG
  obtain ⟨x0, rfl, b0, d0⟩ := rG_ref (by decide) g0
  obtain ⟨x1, rfl, b1, d1⟩ := aG_int g1
  dsimp only at b1 d1
  obtain ⟨x2, rfl, b2, d2⟩ := aG_int g2
  dsimp only at b2 d2
  obtain ⟨x3, rfl, b3, d3⟩ := aG_int g3
  dsimp only at b3 d3
  obtain ⟨x4, rfl, b4, d4⟩ := aG_int g4
  dsimp only at b4 d4
  obtain ⟨x5, rfl, b5, d5⟩ := aG_int g5
  dsimp only at b5 d5
  obtain ⟨x6, rfl, b6, d6⟩ := rG_ref (by decide) g6
  obtain ⟨x7, rfl, b7, d7⟩ := aG_int g7
  dsimp only at b7 d7
  obtain ⟨m1, m2, m3, m4⟩ := hM0
  obtain ⟨M, hM⟩ := rMe_ex hH b0 d0
  obtain ⟨a0, c0, fs0, w0, e1, s0, t0, e4⟩ := m1 (0, 2, 6) (List.mem_of_getElem? (i := 0) rfl)
  obtain rfl : x0 = a0 := Sum.inl.inj (Option.some.inj (Sum.inr.inj (Sum.inr.inj (Option.some.inj (show some (rR x0) = some _ from e1)))))
  obtain rfl : rR x6 = w0 := Option.some.inj (show some (rR x6) = some w0 from e4)
  clear e1 e4
  obtain ⟨a1, c1, fs1, w1, e1, s1, t1, e4⟩ := m1 (0, 3, 7) (List.mem_of_getElem? (i := 1) rfl)
  obtain rfl : x0 = a1 := Sum.inl.inj (Option.some.inj (Sum.inr.inj (Sum.inr.inj (Option.some.inj (show some (rR x0) = some _ from e1)))))
  obtain rfl : rI x7 = w1 := Option.some.inj (show some (rI x7) = some w1 from e4)
  clear e1 e4
  obtain ⟨a2, c2, fs2, w2, e1, s2, t2, e4⟩ := m1 (0, 5, 2) (List.mem_of_getElem? (i := 2) rfl)
  obtain rfl : x0 = a2 := Sum.inl.inj (Option.some.inj (Sum.inr.inj (Sum.inr.inj (Option.some.inj (show some (rR x0) = some _ from e1)))))
  obtain rfl : rI x2 = w2 := Option.some.inj (show some (rI x2) = some w2 from e4)
  clear e1 e4
  obtain ⟨a, mc0, ty0, gc0, ic0, e1, sc0, jc0, e4, e5⟩ := m2 (6, ([(2, 1)], 0), 3) (List.mem_of_getElem? (i := 0) rfl)
  obtain rfl : x6 = a := Sum.inl.inj (Option.some.inj (Sum.inr.inj (Sum.inr.inj (Option.some.inj (show some (rR x6) = some _ from e1)))))
  obtain ⟨gc0, rfl⟩ : ∃ g, gc0 = .inl g := by
    rcases gc0 with g | g
    · exact ⟨g, rfl⟩
    · exact absurd (show some (rI x3) = some (.inr (.inl (g ic0))) from e5) (fun h => by cases h)
  have sc0 : σ x6 = .inl (ty0, mc0, .inl gc0) := sc0
  have ec0 : x3 = gc0 ic0 := Sum.inl.inj (Option.some.inj (show some (rI x3) = some _ from e5))
  have kc0 : (ic0 : Int) = (1 * x2.toInt + 0) + 0 := by
    obtain ⟨z, e6, e7⟩ := e4
    obtain rfl : (1 * x2.toInt + 0) = z := Option.some.inj (show some (1 * x2.toInt + 0) = some z from e6)
    exact e7
  clear e1 e4 e5
  obtain ⟨a, mc1, ty1, gc1, ic1, e1, sc1, jc1, e4, e5⟩ := m2 (6, ([(2, 1)], -8), 4) (List.mem_of_getElem? (i := 1) rfl)
  obtain rfl : x6 = a := Sum.inl.inj (Option.some.inj (Sum.inr.inj (Sum.inr.inj (Option.some.inj (show some (rR x6) = some _ from e1)))))
  obtain ⟨gc1, rfl⟩ : ∃ g, gc1 = .inl g := by
    rcases gc1 with g | g
    · exact ⟨g, rfl⟩
    · exact absurd (show some (rI x4) = some (.inr (.inl (g ic1))) from e5) (fun h => by cases h)
  have sc1 : σ x6 = .inl (ty1, mc1, .inl gc1) := sc1
  have ec1 : x4 = gc1 ic1 := Sum.inl.inj (Option.some.inj (show some (rI x4) = some _ from e5))
  have kc1 : (ic1 : Int) = (1 * x2.toInt + 0) + -8 := by
    obtain ⟨z, e6, e7⟩ := e4
    obtain rfl : (1 * x2.toInt + 0) = z := Option.some.inj (show some (1 * x2.toInt + 0) = some z from e6)
    exact e7
  clear e1 e4 e5
  have l0 : 0 ≤ (1 * x4.toInt + 0) + -9 := by
    obtain ⟨z, e6, e7⟩ := m3 ([(4, 1)], -9) (List.mem_of_getElem? (i := 0) rfl)
    obtain rfl : (1 * x4.toInt + 0) = z := Option.some.inj (show some (1 * x4.toInt + 0) = some z from e6)
    exact e7
  have l1 : 0 ≤ (-1 * x4.toInt + 0) + 9 := by
    obtain ⟨z, e6, e7⟩ := m3 ([(4, -1)], 9) (List.mem_of_getElem? (i := 1) rfl)
    obtain rfl : (-1 * x4.toInt + 0) = z := Option.some.inj (show some (-1 * x4.toInt + 0) = some z from e6)
    exact e7
  have l2 : 0 ≤ (1 * x2.toInt + (-8 * x5.toInt + 0)) + 0 := by
    obtain ⟨z, e6, e7⟩ := m3 ([(2, 1), (5, -8)], 0) (List.mem_of_getElem? (i := 2) rfl)
    obtain rfl : (1 * x2.toInt + (-8 * x5.toInt + 0)) = z := Option.some.inj (show some (1 * x2.toInt + (-8 * x5.toInt + 0)) = some z from e6)
    exact e7
  have l3 : 0 ≤ (-1 * x2.toInt + (8 * x5.toInt + 0)) + 7 := by
    obtain ⟨z, e6, e7⟩ := m3 ([(2, -1), (5, 8)], 7) (List.mem_of_getElem? (i := 3) rfl)
    obtain rfl : (-1 * x2.toInt + (8 * x5.toInt + 0)) = z := Option.some.inj (show some (-1 * x2.toInt + (8 * x5.toInt + 0)) = some z from e6)
    exact e7
  have l4 : 0 ≤ (1 * x5.toInt + 0) + -5 := by
    obtain ⟨z, e6, e7⟩ := m3 ([(5, 1)], -5) (List.mem_of_getElem? (i := 4) rfl)
    obtain rfl : (1 * x5.toInt + 0) = z := Option.some.inj (show some (1 * x5.toInt + 0) = some z from e6)
    exact e7
  have l5 : 0 ≤ (-1 * x5.toInt + 0) + 5 := by
    obtain ⟨z, e6, e7⟩ := m3 ([(5, -1)], 5) (List.mem_of_getElem? (i := 5) rfl)
    obtain rfl : (-1 * x5.toInt + 0) = z := Option.some.inj (show some (-1 * x5.toInt + 0) = some z from e6)
    exact e7
  have y0 : M x2.toInt = x3.toInt := rMg_c hM s0 t0 sc0 (by omega) (by omega) (by omega) ec0
  have y1 : M ((1 * x2.toInt + 0) + -8) = x4.toInt := rMg_c hM s0 t0 sc1 (by omega) (by omega) (by omega) ec1
  clear m1 m2 m3 m4
  have q0 : rB K n p 195 [rR x0, rI x1] σ := ro_195.mpr (by
    intro _
    refine ⟨M, x7, x2, hM, ⟨b0, d0, _, _, s1, t1⟩, ⟨b0, d0, _, _, s2, t2⟩, Or.inr ⟨b2, d2, ?_, ?_⟩⟩
    · show M x2.toInt = 0
      omega
    · show (x7.toInt = 0 ∧ x2.toInt / 8 = 5 ∧ M (x2.toInt - 8) = 9) ∨ (x7.toInt = 1 ∧ x2.toInt / 8 = 2 ∧ M (x2.toInt + 8) = 1)
      rw [show 1 * x2.toInt + 0 + -8 = x2.toInt - 8 by omega] at y1
      omega)
  exact ⟨p, fun _ => rfl, ⟨(fun q h => by cases h), fun q h => (by cases h), (fun f h => by cases h), (aAllc ⟨_, rfl, (rF_b (r := 3122) (by decide) rfl).mpr q0⟩ (fun f h => by cases h))⟩, [], List.mem_cons_self, fun f h => (by cases h)⟩
theorem rw_rvPSy1 {K : Nat → Nat} {n : Nat} {JX : (Nat → jcell) → Prop} : aGho (rF K n) fa_T K n JX ag_rvPSy1 := by
  refine aGho_of ⟨rfl, rfl⟩ ?_
  intro p σ ρ hH hX hA hM0
  have hG := aAG_of hA.1 (fun i e v he hv => (hA.2 i e v he hv).1)
  clear hA
  obtain ⟨v0, v1, v2, v3, v4, v5, v6, v7, rfl, g0, g1, g2, g3, g4, g5, g6, g7⟩ := rA_8 hG
  clear hG
  obtain ⟨x0, rfl, b0, d0⟩ := rG_ref (by decide) g0
  obtain ⟨x1, rfl, b1, d1⟩ := aG_int g1
  dsimp only at b1 d1
  obtain ⟨x2, rfl, b2, d2⟩ := aG_int g2
  dsimp only at b2 d2
  obtain ⟨x3, rfl, b3, d3⟩ := aG_int g3
  dsimp only at b3 d3
  obtain ⟨x4, rfl, b4, d4⟩ := aG_int g4
  dsimp only at b4 d4
  obtain ⟨x5, rfl, b5, d5⟩ := aG_int g5
  dsimp only at b5 d5
  obtain ⟨x6, rfl, b6, d6⟩ := rG_ref (by decide) g6
  obtain ⟨x7, rfl, b7, d7⟩ := aG_int g7
  dsimp only at b7 d7
  obtain ⟨m1, m2, m3, m4⟩ := hM0
  obtain ⟨M, hM⟩ := rMe_ex hH b0 d0
  obtain ⟨a0, c0, fs0, w0, e1, s0, t0, e4⟩ := m1 (0, 2, 6) (List.mem_of_getElem? (i := 0) rfl)
  obtain rfl : x0 = a0 := Sum.inl.inj (Option.some.inj (Sum.inr.inj (Sum.inr.inj (Option.some.inj (show some (rR x0) = some _ from e1)))))
  obtain rfl : rR x6 = w0 := Option.some.inj (show some (rR x6) = some w0 from e4)
  clear e1 e4
  obtain ⟨a1, c1, fs1, w1, e1, s1, t1, e4⟩ := m1 (0, 3, 7) (List.mem_of_getElem? (i := 1) rfl)
  obtain rfl : x0 = a1 := Sum.inl.inj (Option.some.inj (Sum.inr.inj (Sum.inr.inj (Option.some.inj (show some (rR x0) = some _ from e1)))))
  obtain rfl : rI x7 = w1 := Option.some.inj (show some (rI x7) = some w1 from e4)
  clear e1 e4
  obtain ⟨a2, c2, fs2, w2, e1, s2, t2, e4⟩ := m1 (0, 5, 2) (List.mem_of_getElem? (i := 2) rfl)
  obtain rfl : x0 = a2 := Sum.inl.inj (Option.some.inj (Sum.inr.inj (Sum.inr.inj (Option.some.inj (show some (rR x0) = some _ from e1)))))
  obtain rfl : rI x2 = w2 := Option.some.inj (show some (rI x2) = some w2 from e4)
  clear e1 e4
  obtain ⟨a, mc0, ty0, gc0, ic0, e1, sc0, jc0, e4, e5⟩ := m2 (6, ([(2, 1)], 0), 3) (List.mem_of_getElem? (i := 0) rfl)
  obtain rfl : x6 = a := Sum.inl.inj (Option.some.inj (Sum.inr.inj (Sum.inr.inj (Option.some.inj (show some (rR x6) = some _ from e1)))))
  obtain ⟨gc0, rfl⟩ : ∃ g, gc0 = .inl g := by
    rcases gc0 with g | g
    · exact ⟨g, rfl⟩
    · exact absurd (show some (rI x3) = some (.inr (.inl (g ic0))) from e5) (fun h => by cases h)
  have sc0 : σ x6 = .inl (ty0, mc0, .inl gc0) := sc0
  have ec0 : x3 = gc0 ic0 := Sum.inl.inj (Option.some.inj (show some (rI x3) = some _ from e5))
  have kc0 : (ic0 : Int) = (1 * x2.toInt + 0) + 0 := by
    obtain ⟨z, e6, e7⟩ := e4
    obtain rfl : (1 * x2.toInt + 0) = z := Option.some.inj (show some (1 * x2.toInt + 0) = some z from e6)
    exact e7
  clear e1 e4 e5
  obtain ⟨a, mc1, ty1, gc1, ic1, e1, sc1, jc1, e4, e5⟩ := m2 (6, ([(2, 1)], 8), 4) (List.mem_of_getElem? (i := 1) rfl)
  obtain rfl : x6 = a := Sum.inl.inj (Option.some.inj (Sum.inr.inj (Sum.inr.inj (Option.some.inj (show some (rR x6) = some _ from e1)))))
  obtain ⟨gc1, rfl⟩ : ∃ g, gc1 = .inl g := by
    rcases gc1 with g | g
    · exact ⟨g, rfl⟩
    · exact absurd (show some (rI x4) = some (.inr (.inl (g ic1))) from e5) (fun h => by cases h)
  have sc1 : σ x6 = .inl (ty1, mc1, .inl gc1) := sc1
  have ec1 : x4 = gc1 ic1 := Sum.inl.inj (Option.some.inj (show some (rI x4) = some _ from e5))
  have kc1 : (ic1 : Int) = (1 * x2.toInt + 0) + 8 := by
    obtain ⟨z, e6, e7⟩ := e4
    obtain rfl : (1 * x2.toInt + 0) = z := Option.some.inj (show some (1 * x2.toInt + 0) = some z from e6)
    exact e7
  clear e1 e4 e5
  have l0 : 0 ≤ (1 * x4.toInt + 0) + -1 := by
    obtain ⟨z, e6, e7⟩ := m3 ([(4, 1)], -1) (List.mem_of_getElem? (i := 0) rfl)
    obtain rfl : (1 * x4.toInt + 0) = z := Option.some.inj (show some (1 * x4.toInt + 0) = some z from e6)
    exact e7
  have l1 : 0 ≤ (-1 * x4.toInt + 0) + 1 := by
    obtain ⟨z, e6, e7⟩ := m3 ([(4, -1)], 1) (List.mem_of_getElem? (i := 1) rfl)
    obtain rfl : (-1 * x4.toInt + 0) = z := Option.some.inj (show some (-1 * x4.toInt + 0) = some z from e6)
    exact e7
  have l2 : 0 ≤ (1 * x2.toInt + (-8 * x5.toInt + 0)) + 0 := by
    obtain ⟨z, e6, e7⟩ := m3 ([(2, 1), (5, -8)], 0) (List.mem_of_getElem? (i := 2) rfl)
    obtain rfl : (1 * x2.toInt + (-8 * x5.toInt + 0)) = z := Option.some.inj (show some (1 * x2.toInt + (-8 * x5.toInt + 0)) = some z from e6)
    exact e7
  have l3 : 0 ≤ (-1 * x2.toInt + (8 * x5.toInt + 0)) + 7 := by
    obtain ⟨z, e6, e7⟩ := m3 ([(2, -1), (5, 8)], 7) (List.mem_of_getElem? (i := 3) rfl)
    obtain rfl : (-1 * x2.toInt + (8 * x5.toInt + 0)) = z := Option.some.inj (show some (-1 * x2.toInt + (8 * x5.toInt + 0)) = some z from e6)
    exact e7
  have l4 : 0 ≤ (1 * x5.toInt + 0) + -2 := by
    obtain ⟨z, e6, e7⟩ := m3 ([(5, 1)], -2) (List.mem_of_getElem? (i := 4) rfl)
    obtain rfl : (1 * x5.toInt + 0) = z := Option.some.inj (show some (1 * x5.toInt + 0) = some z from e6)
    exact e7
  have l5 : 0 ≤ (-1 * x5.toInt + 0) + 2 := by
    obtain ⟨z, e6, e7⟩ := m3 ([(5, -1)], 2) (List.mem_of_getElem? (i := 5) rfl)
    obtain rfl : (-1 * x5.toInt + 0) = z := Option.some.inj (show some (-1 * x5.toInt + 0) = some z from e6)
    exact e7
  have y0 : M x2.toInt = x3.toInt := rMg_c hM s0 t0 sc0 (by omega) (by omega) (by omega) ec0
  have y1 : M ((1 * x2.toInt + 0) + 8) = x4.toInt := rMg_c hM s0 t0 sc1 (by omega) (by omega) (by omega) ec1
  clear m1 m2 m3 m4
  have q0 : rB K n p 195 [rR x0, rI x1] σ := ro_195.mpr (by
    intro _
    refine ⟨M, x7, x2, hM, ⟨b0, d0, _, _, s1, t1⟩, ⟨b0, d0, _, _, s2, t2⟩, Or.inr ⟨b2, d2, ?_, ?_⟩⟩
    · show M x2.toInt = 0
      omega
    · show (x7.toInt = 0 ∧ x2.toInt / 8 = 5 ∧ M (x2.toInt - 8) = 9) ∨ (x7.toInt = 1 ∧ x2.toInt / 8 = 2 ∧ M (x2.toInt + 8) = 1)
      rw [show 1 * x2.toInt + 0 + 8 = x2.toInt + 8 by omega] at y1
      omega)
  exact ⟨p, fun _ => rfl, ⟨(fun q h => by cases h), fun q h => (by cases h), (fun f h => by cases h), (aAllc ⟨_, rfl, (rF_b (r := 3122) (by decide) rfl).mpr q0⟩ (fun f h => by cases h))⟩, [], List.mem_cons_self, fun f h => (by cases h)⟩
theorem rw_rvQI2 {K : Nat → Nat} {n : Nat} {JX : (Nat → jcell) → Prop} : aGho (rF K n) fa_T K n JX ag_rvQI2 := by
  refine aGho_of ⟨rfl, rfl⟩ ?_
  intro p σ ρ hH hX hA hM0
  have hG := aAG_of hA.1 (fun i e v he hv => (hA.2 i e v he hv).1)
  clear hA
  obtain ⟨v0, rfl, g0⟩ := rA_1 hG
  clear hG
  obtain ⟨x0, rfl, b0, d0⟩ := aG_int g0
  dsimp only at b0 d0
  obtain ⟨m1, m2, m3, m4⟩ := hM0
  clear m1 m2 m3 m4
  have q0 : rB K n p 136 [rI x0] σ := ro_136.mpr (by
    trivial)
  exact ⟨p, fun _ => rfl, ⟨(fun q h => by cases h), fun q h => (by cases h), (fun f h => by cases h), (aAllc ⟨_, rfl, (rF_b (r := 2177) (by decide) rfl).mpr q0⟩ (fun f h => by cases h))⟩, [], List.mem_cons_self, fun f h => (by cases h)⟩
theorem rw_rvPW1 {K : Nat → Nat} {n : Nat} {JX : (Nat → jcell) → Prop} : aGho (rF K n) fa_T K n JX ag_rvPW1 := by
  refine aGho_of ⟨rfl, rfl⟩ ?_
  intro p σ ρ hH hX hA hM0
  have hG := aAG_of hA.1 (fun i e v he hv => (hA.2 i e v he hv).1)
  clear hA
  obtain ⟨v0, v1, rfl, g0, g1⟩ := rA_2 hG
  clear hG
  obtain ⟨x0, rfl, b0, d0⟩ := aG_int g0
  dsimp only at b0 d0
  obtain ⟨x1, rfl, b1, d1⟩ := aG_int g1
  dsimp only at b1 d1
  obtain ⟨m1, m2, m3, m4⟩ := hM0
  clear m1 m2 m3 m4
  have q0 : rB K n p 198 [rI x0, rI x1] σ := ro_198.mpr (by
    trivial)
  exact ⟨p, fun _ => rfl, ⟨(fun q h => by cases h), fun q h => (by cases h), (fun f h => by cases h), (aAllc ⟨_, rfl, (rF_b (r := 3170) (by decide) rfl).mpr q0⟩ (fun f h => by cases h))⟩, [], List.mem_cons_self, fun f h => (by cases h)⟩
theorem rw_rvPW2 {K : Nat → Nat} {n : Nat} {JX : (Nat → jcell) → Prop} : aGho (rF K n) fa_T K n JX ag_rvPW2 := by
  refine aGho_of ⟨rfl, rfl⟩ ?_
  intro p σ ρ hH hX hA hM0
  have hG := aAG_of hA.1 (fun i e v he hv => (hA.2 i e v he hv).1)
  clear hA
  obtain ⟨v0, v1, rfl, g0, g1⟩ := rA_2 hG
  clear hG
  obtain ⟨x0, rfl, b0, d0⟩ := aG_int g0
  dsimp only at b0 d0
  obtain ⟨x1, rfl, b1, d1⟩ := aG_int g1
  dsimp only at b1 d1
  obtain ⟨m1, m2, m3, m4⟩ := hM0
  clear m1 m2 m3 m4
  have q0 : rB K n p 199 [rI x0, rI x1] σ := ro_199.mpr (by
    trivial)
  exact ⟨p, fun _ => rfl, ⟨(fun q h => by cases h), fun q h => (by cases h), (fun f h => by cases h), (aAllc ⟨_, rfl, (rF_b (r := 3186) (by decide) rfl).mpr q0⟩ (fun f h => by cases h))⟩, [], List.mem_cons_self, fun f h => (by cases h)⟩
theorem rw_rvFOy {K : Nat → Nat} {n : Nat} {JX : (Nat → jcell) → Prop} : aGho (rF K n) fa_T K n JX ag_rvFOy := by
  refine aGho_of ⟨rfl, rfl⟩ ?_
  intro p σ ρ hH hX hA hM0
  have hG := aAG_of hA.1 (fun i e v he hv => (hA.2 i e v he hv).1)
  clear hA
  obtain ⟨v0, v1, v2, v3, v4, v5, rfl, g0, g1, g2, g3, g4, g5⟩ := rA_6 hG
  clear hG
  obtain ⟨x0, rfl, b0, d0⟩ := rG_ref (by decide) g0
  obtain ⟨x1, rfl, b1, d1⟩ := aG_int g1
  dsimp only at b1 d1
  obtain ⟨x2, rfl, b2, d2⟩ := aG_int g2
  dsimp only at b2 d2
  obtain ⟨x3, rfl, b3, d3⟩ := aG_int g3
  dsimp only at b3 d3
  obtain ⟨x4, rfl, b4, d4⟩ := aG_int g4
  dsimp only at b4 d4
  obtain ⟨x5, rfl, b5, d5⟩ := aG_int g5
  dsimp only at b5 d5
  obtain ⟨m1, m2, m3, m4⟩ := hM0
  obtain ⟨M, hM⟩ := rMe_ex hH b0 d0
  obtain ⟨a0, c0, fs0, w0, e1, s0, t0, e4⟩ := m1 (0, 3, 3) (List.mem_of_getElem? (i := 0) rfl)
  obtain rfl : x0 = a0 := Sum.inl.inj (Option.some.inj (Sum.inr.inj (Sum.inr.inj (Option.some.inj (show some (rR x0) = some _ from e1)))))
  obtain rfl : rI x3 = w0 := Option.some.inj (show some (rI x3) = some w0 from e4)
  clear e1 e4
  have l0 : 0 ≤ (1 * x2.toInt + (1 * x3.toInt + 0)) + -1 := by
    obtain ⟨z, e6, e7⟩ := m3 ([(2, 1), (3, 1)], -1) (List.mem_of_getElem? (i := 0) rfl)
    obtain rfl : (1 * x2.toInt + (1 * x3.toInt + 0)) = z := Option.some.inj (show some (1 * x2.toInt + (1 * x3.toInt + 0)) = some z from e6)
    exact e7
  have l1 : 0 ≤ (-1 * x2.toInt + (-1 * x3.toInt + 0)) + 1 := by
    obtain ⟨z, e6, e7⟩ := m3 ([(2, -1), (3, -1)], 1) (List.mem_of_getElem? (i := 1) rfl)
    obtain rfl : (-1 * x2.toInt + (-1 * x3.toInt + 0)) = z := Option.some.inj (show some (-1 * x2.toInt + (-1 * x3.toInt + 0)) = some z from e6)
    exact e7
  have f0 : rB K n p 139 [rR x0] σ := by
    obtain ⟨w, e6, e7⟩ := m4 (2225, [0]) (List.mem_of_getElem? (i := 0) rfl)
    obtain rfl : [rR x0] = w := Option.some.inj (show some [rR x0] = some w from e6)
    exact (rF_b (r := 2225) (by decide) rfl).mp e7
  obtain ⟨M9, h9, f0⟩ := ro_139.mp f0
  obtain rfl := rMg_u hM h9
  clear h9
  have f1 : rB K n p 140 [rR x0, rI x2, rI x4] σ := by
    obtain ⟨w, e6, e7⟩ := m4 (2243, [0, 2, 4]) (List.mem_of_getElem? (i := 1) rfl)
    obtain rfl : [rR x0, rI x2, rI x4] = w := Option.some.inj (show some [rR x0, rI x2, rI x4] = some w from e6)
    exact (rF_b (r := 2243) (by decide) rfl).mp e7
  obtain ⟨M9, h9, f1⟩ := ro_140.mp f1
  obtain rfl := rMg_u hM h9
  clear h9
  have f2 : rB K n p 195 [rR x0, rI x5] σ := by
    obtain ⟨w, e6, e7⟩ := m4 (3122, [0, 5]) (List.mem_of_getElem? (i := 2) rfl)
    obtain rfl : [rR x0, rI x5] = w := Option.some.inj (show some [rR x0, rI x5] = some w from e6)
    exact (rF_b (r := 3122) (by decide) rfl).mp e7
  have f2 := ro_195.mp f2
  clear m1 m2 m3 m4
  have q0 : rB K n p 197 [rR x0, rI x1] σ := ro_197.mpr (by
    intro _
    obtain ⟨M9, v, P, h1, h2, h3, h4⟩ := f2 (by omega)
    obtain rfl := rMg_u hM h1
    cases rOb_u h2 ⟨b0, d0, _, _, s0, t0⟩
    refine ⟨M, x3, P, hM, h2, h3, f0, h4, fun t ht hk => ?_⟩
    obtain ⟨s, k1, k2⟩ := f1
    obtain ⟨s0', -, -, -, hu⟩ := f0 x2.toInt b2 d2
    obtain rfl : t = s := (hu t (by omega)).trans (hu s k1.2.2.1).symm
    rcases k2 with k2 | k2
    · have := k2.1; omega
    · rw [show 1 - x2.toInt = x3.toInt by omega] at k2
      exact k2.2 hk)
  exact ⟨p, fun _ => rfl, ⟨(fun q h => by cases h), fun q h => (by cases h), (fun f h => by cases h), (aAllc ⟨_, rfl, (rF_b (r := 3154) (by decide) rfl).mpr q0⟩ (fun f h => by cases h))⟩, [], List.mem_cons_self, fun f h => (by cases h)⟩
end
