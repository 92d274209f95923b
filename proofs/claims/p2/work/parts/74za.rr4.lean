/-! the reference: rules of g4 -/
theorem rw_rvEN0 {K : Nat → Nat} {n : Nat} {JX : (Nat → jcell) → Prop} : aGho (rF K n) fa_T K n JX ag_rvEN0 := by
  refine aGho_of ⟨rfl, rfl⟩ ?_
  intro p σ ρ hH hX hA hM0
  have hG := aAG_of hA.1 (fun i e v he hv => (hA.2 i e v he hv).1)
  clear hA
  obtain ⟨v0, v1, v2, rfl, g0, g1, g2⟩ := rA_3 hG
  clear hG
  obtain ⟨x0, rfl, b0, d0⟩ := rG_ref (by decide) g0
  obtain ⟨x1, rfl, b1, d1⟩ := aG_int g1
  dsimp only at b1 d1
  obtain ⟨x2, rfl, b2, d2⟩ := aG_int g2
  dsimp only at b2 d2
  obtain ⟨m1, m2, m3, m4⟩ := hM0
  obtain ⟨M, hM⟩ := rMe_ex hH b0 d0
  clear m1 m2 m3 m4
  have q0 : rB K n p 88 [rR x0, rI x1, rI x2] σ := ro_88.mpr (by
    obtain ⟨g, h⟩ := rRo_ex (ko := 88) (f := 9) (kr := 91) (len := 19520) hH rfl rfl rfl (by decide) b0 d0
    exact ⟨g, h, fun _ j h1 h2 => by omega⟩)
  exact ⟨p, fun _ => rfl, ⟨(fun q h => by cases h), fun q h => (by cases h), (fun f h => by cases h), (aAllc ⟨_, rfl, (rF_b (r := 1411) (by decide) rfl).mpr q0⟩ (fun f h => by cases h))⟩, [], List.mem_cons_self, fun f h => (by cases h)⟩
theorem rw_rvENs {K : Nat → Nat} {n : Nat} {JX : (Nat → jcell) → Prop} : aGho (rF K n) fa_T K n JX ag_rvENs := by
  refine aGho_of ⟨rfl, rfl⟩ ?_
  intro p σ ρ hH hX hA hM0
  have hG := aAG_of hA.1 (fun i e v he hv => (hA.2 i e v he hv).1)
  clear hA
  obtain ⟨v0, v1, v2, v3, v4, v5, v6, rfl, g0, g1, g2, g3, g4, g5, g6⟩ := rA_7 hG
  clear hG
  obtain ⟨x0, rfl, b0, d0⟩ := rG_ref (by decide) g0
  obtain ⟨x1, rfl, b1, d1⟩ := rG_ref (by decide) g1
  obtain ⟨x2, rfl, b2, d2⟩ := aG_int g2
  dsimp only at b2 d2
  obtain ⟨x3, rfl, b3, d3⟩ := aG_int g3
  dsimp only at b3 d3
  obtain ⟨x4, rfl, b4, d4⟩ := aG_int g4
  dsimp only at b4 d4
  obtain ⟨x5, rfl, b5, d5⟩ := aG_int g5
  dsimp only at b5 d5
  obtain ⟨x6, rfl, b6, d6⟩ := rG_ref (by decide) g6
  obtain ⟨m1, m2, m3, m4⟩ := hM0
  obtain ⟨M, hM⟩ := rMe_ex hH b0 d0
  obtain ⟨a0, c0, fs0, w0, e1, s0, t0, e4⟩ := m1 (0, 2, 6) (List.mem_of_getElem? (i := 0) rfl)
  obtain rfl : x0 = a0 := Sum.inl.inj (Option.some.inj (Sum.inr.inj (Sum.inr.inj (Option.some.inj (show some (rR x0) = some _ from e1)))))
  obtain rfl : rR x6 = w0 := Option.some.inj (show some (rR x6) = some w0 from e4)
  clear e1 e4
  obtain ⟨a1, c1, fs1, w1, e1, s1, t1, e4⟩ := m1 (0, 9, 1) (List.mem_of_getElem? (i := 1) rfl)
  obtain rfl : x0 = a1 := Sum.inl.inj (Option.some.inj (Sum.inr.inj (Sum.inr.inj (Option.some.inj (show some (rR x0) = some _ from e1)))))
  obtain rfl : rR x1 = w1 := Option.some.inj (show some (rR x1) = some w1 from e4)
  clear e1 e4
  obtain ⟨a, mc0, ty0, gc0, ic0, e1, sc0, jc0, e4, e5⟩ := m2 (6, ([(3, 1)], 0), 5) (List.mem_of_getElem? (i := 0) rfl)
  obtain rfl : x6 = a := Sum.inl.inj (Option.some.inj (Sum.inr.inj (Sum.inr.inj (Option.some.inj (show some (rR x6) = some _ from e1)))))
  obtain ⟨gc0, rfl⟩ : ∃ g, gc0 = .inl g := by
    rcases gc0 with g | g
    · exact ⟨g, rfl⟩
    · exact absurd (show some (rI x5) = some (.inr (.inl (g ic0))) from e5) (fun h => by cases h)
  have sc0 : σ x6 = .inl (ty0, mc0, .inl gc0) := sc0
  have ec0 : x5 = gc0 ic0 := Sum.inl.inj (Option.some.inj (show some (rI x5) = some _ from e5))
  have kc0 : (ic0 : Int) = (1 * x3.toInt + 0) + 0 := by
    obtain ⟨z, e6, e7⟩ := e4
    obtain rfl : (1 * x3.toInt + 0) = z := Option.some.inj (show some (1 * x3.toInt + 0) = some z from e6)
    exact e7
  clear e1 e4 e5
  have l0 : 0 ≤ (1 * x4.toInt + (-64 * x2.toInt + (-1 * x3.toInt + 0))) + 0 := by
    obtain ⟨z, e6, e7⟩ := m3 ([(4, 1), (2, -64), (3, -1)], 0) (List.mem_of_getElem? (i := 0) rfl)
    obtain rfl : (1 * x4.toInt + (-64 * x2.toInt + (-1 * x3.toInt + 0))) = z := Option.some.inj (show some (1 * x4.toInt + (-64 * x2.toInt + (-1 * x3.toInt + 0))) = some z from e6)
    exact e7
  have l1 : 0 ≤ (-1 * x4.toInt + (64 * x2.toInt + (1 * x3.toInt + 0))) + 0 := by
    obtain ⟨z, e6, e7⟩ := m3 ([(4, -1), (2, 64), (3, 1)], 0) (List.mem_of_getElem? (i := 1) rfl)
    obtain rfl : (-1 * x4.toInt + (64 * x2.toInt + (1 * x3.toInt + 0))) = z := Option.some.inj (show some (-1 * x4.toInt + (64 * x2.toInt + (1 * x3.toInt + 0))) = some z from e6)
    exact e7
  have y0 : M x3.toInt = x5.toInt := rMg_c hM s0 t0 sc0 (by omega) (by omega) (by omega) ec0
  have f0 : rB K n p 22 [rR x0] σ := by
    obtain ⟨w, e6, e7⟩ := m4 (353, [0]) (List.mem_of_getElem? (i := 0) rfl)
    obtain rfl : [rR x0] = w := Option.some.inj (show some [rR x0] = some w from e6)
    exact (rF_b (r := 353) (by decide) rfl).mp e7
  obtain ⟨hp, hR⟩ := ro_22.mp f0
  obtain rfl := rMg_u hM hR.1
  have f1 : rB K n p 88 [rR x0, rI x2, rI x3] σ := by
    obtain ⟨w, e6, e7⟩ := m4 (1411, [0, 2, 3]) (List.mem_of_getElem? (i := 1) rfl)
    obtain rfl : [rR x0, rI x2, rI x3] = w := Option.some.inj (show some [rR x0, rI x2, rI x3] = some w from e6)
    exact (rF_b (r := 1411) (by decide) rfl).mp e7
  have f1 := ro_88.mp f1
  clear m1 m2 m3 m4
  have q0 : rB K n p 89 [rR x0, rI x2, rI x3] (jup σ x1 (jsto (σ x1) x4.toNatClampNeg x5)) := ro_89.mpr (by
    obtain ⟨g, h, k⟩ := f1
    refine ⟨_, rRo_up h s1 t1, fun _ j h1 h2 => ?_⟩
    have hi : x4.toNatClampNeg = x4.toInt.toNat := rfl
    unfold upd
    by_cases cj : j = x3.toInt
    · rw [if_pos (by rw [hi]; omega), cj]
      exact y0.symm
    · rw [if_neg (by rw [hi]; omega)]
      exact k (by omega) j h1 (by omega))
  exact ⟨p, fun _ => rfl, ⟨(fun q h => by cases h), fun q h => (by cases h), (fun f h => by cases h), (aAllc ⟨_, rfl, rF_p (r := 1427) (by decide) (by decide) q0⟩ (fun f h => by cases h))⟩, [], List.mem_cons_self, fun f h => (by cases h)⟩
theorem rw_rvENn {K : Nat → Nat} {n : Nat} {JX : (Nat → jcell) → Prop} : aGho (rF K n) fa_T K n JX ag_rvENn := by
  refine aGho_of ⟨rfl, rfl⟩ ?_
  intro p σ ρ hH hX hA hM0
  have hG := aAG_of hA.1 (fun i e v he hv => (hA.2 i e v he hv).1)
  clear hA
  obtain ⟨v0, v1, v2, v3, rfl, g0, g1, g2, g3⟩ := rA_4 hG
  clear hG
  obtain ⟨x0, rfl, b0, d0⟩ := rG_ref (by decide) g0
  obtain ⟨x1, rfl, b1, d1⟩ := aG_int g1
  dsimp only at b1 d1
  obtain ⟨x2, rfl, b2, d2⟩ := aG_int g2
  dsimp only at b2 d2
  obtain ⟨x3, rfl, b3, d3⟩ := aG_int g3
  dsimp only at b3 d3
  obtain ⟨m1, m2, m3, m4⟩ := hM0
  obtain ⟨M, hM⟩ := rMe_ex hH b0 d0
  have l0 : 0 ≤ (1 * x3.toInt + (-1 * x2.toInt + 0)) + -1 := by
    obtain ⟨z, e6, e7⟩ := m3 ([(3, 1), (2, -1)], -1) (List.mem_of_getElem? (i := 0) rfl)
    obtain rfl : (1 * x3.toInt + (-1 * x2.toInt + 0)) = z := Option.some.inj (show some (1 * x3.toInt + (-1 * x2.toInt + 0)) = some z from e6)
    exact e7
  have l1 : 0 ≤ (-1 * x3.toInt + (1 * x2.toInt + 0)) + 1 := by
    obtain ⟨z, e6, e7⟩ := m3 ([(3, -1), (2, 1)], 1) (List.mem_of_getElem? (i := 1) rfl)
    obtain rfl : (-1 * x3.toInt + (1 * x2.toInt + 0)) = z := Option.some.inj (show some (-1 * x3.toInt + (1 * x2.toInt + 0)) = some z from e6)
    exact e7
  have f0 : rB K n p 89 [rR x0, rI x1, rI x2] σ := by
    obtain ⟨w, e6, e7⟩ := m4 (1427, [0, 1, 2]) (List.mem_of_getElem? (i := 0) rfl)
    obtain rfl : [rR x0, rI x1, rI x2] = w := Option.some.inj (show some [rR x0, rI x1, rI x2] = some w from e6)
    exact (rF_b (r := 1427) (by decide) rfl).mp e7
  have f0 := ro_89.mp f0
  clear m1 m2 m3 m4
  have q0 : rB K n p 88 [rR x0, rI x1, rI x3] σ := ro_88.mpr (by
    rw [show x3.toInt = x2.toInt + 1 by omega]
    exact f0)
  exact ⟨p, fun _ => rfl, ⟨(fun q h => by cases h), fun q h => (by cases h), (fun f h => by cases h), (aAllc ⟨_, rfl, (rF_b (r := 1411) (by decide) rfl).mpr q0⟩ (fun f h => by cases h))⟩, [], List.mem_cons_self, fun f h => (by cases h)⟩
theorem rw_rvPGe {K : Nat → Nat} {n : Nat} {JX : (Nat → jcell) → Prop} : aGho (rF K n) fa_T K n JX ag_rvPGe := by
  refine aGho_of ⟨rfl, rfl⟩ ?_
  intro p σ ρ hH hX hA hM0
  have hG := aAG_of hA.1 (fun i e v he hv => (hA.2 i e v he hv).1)
  clear hA
  obtain ⟨v0, v1, v2, v3, v4, v5, v6, v7, v8, rfl, g0, g1, g2, g3, g4, g5, g6, g7, g8⟩ := rA_9 hG
  clear hG
  obtain ⟨x0, rfl, b0, d0⟩ := rG_ref (by decide) g0
  obtain ⟨x1, rfl, b1, d1⟩ := aG_int g1
  dsimp only at b1 d1
  obtain ⟨x2, rfl, b2, d2⟩ := aG_int g2
  dsimp only at b2 d2
  obtain ⟨x3, rfl, b3, d3⟩ := aG_int g3
  dsimp only at b3 d3
  obtain ⟨x4, rfl, b4, d4⟩ := aG_int g4
  dsimp only at b4 d4
  obtain ⟨x5, rfl, b5, d5⟩ := aG_int g5
  dsimp only at b5 d5
  obtain ⟨x6, rfl, b6, d6⟩ := rG_ref (by decide) g6
  obtain ⟨x7, rfl, b7, d7⟩ := rG_ref (by decide) g7
  obtain ⟨x8, rfl, b8, d8⟩ := rG_ref (by decide) g8
  obtain ⟨m1, m2, m3, m4⟩ := hM0
  obtain ⟨M, hM⟩ := rMe_ex hH b0 d0
  obtain ⟨a0, c0, fs0, w0, e1, s0, t0, e4⟩ := m1 (0, 10, 6) (List.mem_of_getElem? (i := 0) rfl)
  obtain rfl : x0 = a0 := Sum.inl.inj (Option.some.inj (Sum.inr.inj (Sum.inr.inj (Option.some.inj (show some (rR x0) = some _ from e1)))))
  obtain rfl : rR x6 = w0 := Option.some.inj (show some (rR x6) = some w0 from e4)
  clear e1 e4
  obtain ⟨a1, c1, fs1, w1, e1, s1, t1, e4⟩ := m1 (0, 11, 7) (List.mem_of_getElem? (i := 1) rfl)
  obtain rfl : x0 = a1 := Sum.inl.inj (Option.some.inj (Sum.inr.inj (Sum.inr.inj (Option.some.inj (show some (rR x0) = some _ from e1)))))
  obtain rfl : rR x7 = w1 := Option.some.inj (show some (rR x7) = some w1 from e4)
  clear e1 e4
  obtain ⟨a2, c2, fs2, w2, e1, s2, t2, e4⟩ := m1 (0, 12, 8) (List.mem_of_getElem? (i := 2) rfl)
  obtain rfl : x0 = a2 := Sum.inl.inj (Option.some.inj (Sum.inr.inj (Sum.inr.inj (Option.some.inj (show some (rR x0) = some _ from e1)))))
  obtain rfl : rR x8 = w2 := Option.some.inj (show some (rR x8) = some w2 from e4)
  clear e1 e4
  obtain ⟨a3, c3, fs3, w3, e1, s3, t3, e4⟩ := m1 (0, 3, 3) (List.mem_of_getElem? (i := 3) rfl)
  obtain rfl : x0 = a3 := Sum.inl.inj (Option.some.inj (Sum.inr.inj (Sum.inr.inj (Option.some.inj (show some (rR x0) = some _ from e1)))))
  obtain rfl : rI x3 = w3 := Option.some.inj (show some (rI x3) = some w3 from e4)
  clear e1 e4
  obtain ⟨a4, c4, fs4, w4, e1, s4, t4, e4⟩ := m1 (0, 4, 4) (List.mem_of_getElem? (i := 4) rfl)
  obtain rfl : x0 = a4 := Sum.inl.inj (Option.some.inj (Sum.inr.inj (Sum.inr.inj (Option.some.inj (show some (rR x0) = some _ from e1)))))
  obtain rfl : rI x4 = w4 := Option.some.inj (show some (rI x4) = some w4 from e4)
  clear e1 e4
  obtain ⟨a5, c5, fs5, w5, e1, s5, t5, e4⟩ := m1 (0, 5, 5) (List.mem_of_getElem? (i := 5) rfl)
  obtain rfl : x0 = a5 := Sum.inl.inj (Option.some.inj (Sum.inr.inj (Sum.inr.inj (Option.some.inj (show some (rR x0) = some _ from e1)))))
  obtain rfl : rI x5 = w5 := Option.some.inj (show some (rI x5) = some w5 from e4)
  clear e1 e4
  obtain ⟨a, mc0, ty0, gc0, ic0, e1, sc0, jc0, e4, e5⟩ := m2 (6, ([(1, 1)], 0), 3) (List.mem_of_getElem? (i := 0) rfl)
  obtain rfl : x6 = a := Sum.inl.inj (Option.some.inj (Sum.inr.inj (Sum.inr.inj (Option.some.inj (show some (rR x6) = some _ from e1)))))
  obtain ⟨gc0, rfl⟩ : ∃ g, gc0 = .inl g := by
    rcases gc0 with g | g
    · exact ⟨g, rfl⟩
    · exact absurd (show some (rI x3) = some (.inr (.inl (g ic0))) from e5) (fun h => by cases h)
  have sc0 : σ x6 = .inl (ty0, mc0, .inl gc0) := sc0
  have ec0 : x3 = gc0 ic0 := Sum.inl.inj (Option.some.inj (show some (rI x3) = some _ from e5))
  have kc0 : (ic0 : Int) = (1 * x1.toInt + 0) + 0 := by
    obtain ⟨z, e6, e7⟩ := e4
    obtain rfl : (1 * x1.toInt + 0) = z := Option.some.inj (show some (1 * x1.toInt + 0) = some z from e6)
    exact e7
  clear e1 e4 e5
  obtain ⟨a, mc1, ty1, gc1, ic1, e1, sc1, jc1, e4, e5⟩ := m2 (7, ([(1, 1)], 0), 4) (List.mem_of_getElem? (i := 1) rfl)
  obtain rfl : x7 = a := Sum.inl.inj (Option.some.inj (Sum.inr.inj (Sum.inr.inj (Option.some.inj (show some (rR x7) = some _ from e1)))))
  obtain ⟨gc1, rfl⟩ : ∃ g, gc1 = .inl g := by
    rcases gc1 with g | g
    · exact ⟨g, rfl⟩
    · exact absurd (show some (rI x4) = some (.inr (.inl (g ic1))) from e5) (fun h => by cases h)
  have sc1 : σ x7 = .inl (ty1, mc1, .inl gc1) := sc1
  have ec1 : x4 = gc1 ic1 := Sum.inl.inj (Option.some.inj (show some (rI x4) = some _ from e5))
  have kc1 : (ic1 : Int) = (1 * x1.toInt + 0) + 0 := by
    obtain ⟨z, e6, e7⟩ := e4
    obtain rfl : (1 * x1.toInt + 0) = z := Option.some.inj (show some (1 * x1.toInt + 0) = some z from e6)
    exact e7
  clear e1 e4 e5
  obtain ⟨a, mc2, ty2, gc2, ic2, e1, sc2, jc2, e4, e5⟩ := m2 (8, ([(1, 1)], 0), 5) (List.mem_of_getElem? (i := 2) rfl)
  obtain rfl : x8 = a := Sum.inl.inj (Option.some.inj (Sum.inr.inj (Sum.inr.inj (Option.some.inj (show some (rR x8) = some _ from e1)))))
  obtain ⟨gc2, rfl⟩ : ∃ g, gc2 = .inl g := by
    rcases gc2 with g | g
    · exact ⟨g, rfl⟩
    · exact absurd (show some (rI x5) = some (.inr (.inl (g ic2))) from e5) (fun h => by cases h)
  have sc2 : σ x8 = .inl (ty2, mc2, .inl gc2) := sc2
  have ec2 : x5 = gc2 ic2 := Sum.inl.inj (Option.some.inj (show some (rI x5) = some _ from e5))
  have kc2 : (ic2 : Int) = (1 * x1.toInt + 0) + 0 := by
    obtain ⟨z, e6, e7⟩ := e4
    obtain rfl : (1 * x1.toInt + 0) = z := Option.some.inj (show some (1 * x1.toInt + 0) = some z from e6)
    exact e7
  clear e1 e4 e5
  have f0 : rB K n p 22 [rR x0] σ := by
    obtain ⟨w, e6, e7⟩ := m4 (353, [0]) (List.mem_of_getElem? (i := 0) rfl)
    obtain rfl : [rR x0] = w := Option.some.inj (show some [rR x0] = some w from e6)
    exact (rF_b (r := 353) (by decide) rfl).mp e7
  obtain ⟨hp, hR⟩ := ro_22.mp f0
  obtain rfl := rMg_u hM hR.1
  have uS : p.1.2.1 = x3.toInt := rRX_f hR.2.1 s3 t3
  have uR : p.1.2.2.1 = x4.toInt := rRX_f hR.2.2.1 s4 t4
  have uP : p.1.2.2.2 = x5.toInt := rRX_f hR.2.2.2 s5 t5
  have f1 : rB K n p 24 [] σ := by
    obtain ⟨w, e6, e7⟩ := m4 (384, []) (List.mem_of_getElem? (i := 1) rfl)
    obtain rfl : [] = w := Option.some.inj (show some [] = some w from e6)
    exact (rF_b (r := 384) (by decide) rfl).mp e7
  have f1 := ro_24.mp f1
  have f2 : rB K n p 170 [rR x0, rI x1] σ := by
    obtain ⟨w, e6, e7⟩ := m4 (2722, [0, 1]) (List.mem_of_getElem? (i := 2) rfl)
    obtain rfl : [rR x0, rI x1] = w := Option.some.inj (show some [rR x0, rI x1] = some w from e6)
    exact (rF_b (r := 2722) (by decide) rfl).mp e7
  have f2 := ro_170.mp f2
  have f3 : rB K n p 88 [rR x0, rI x1, rI x2] σ := by
    obtain ⟨w, e6, e7⟩ := m4 (1411, [0, 1, 2]) (List.mem_of_getElem? (i := 3) rfl)
    obtain rfl : [rR x0, rI x1, rI x2] = w := Option.some.inj (show some [rR x0, rI x1, rI x2] = some w from e6)
    exact (rF_b (r := 1411) (by decide) rfl).mp e7
  have f3 := ro_88.mp f3
  clear m1 m2 m3 m4
  have q0 : rB K n p 171 [rR x0, rI x1] σ := ro_171.mpr (by
    obtain ⟨gM, gS, gP, h1, h2, h3, k⟩ := f2
    obtain ⟨g', h4, k4⟩ := f3
    obtain rfl := rRo_u h1 h4
    refine ⟨gM, gS, gP, h1, h2, h3, fun t tt1 tt2 => ?_⟩
    by_cases ct : t = x1.toInt
    · have e1 := rRo_c (i := ic0) h2 s0 t0 sc0 ec0
      have e3 := rRo_c (i := ic2) h3 s2 t2 sc2 ec2
      rw [show ic0 = t.toNat by omega] at e1
      rw [show ic2 = t.toNat by omega] at e3
      refine rPs_m (q := p.1) (fun j j0 j1 => ?_) ?_ ?_ f1.2.2.2.2.1
      · show p.1.1 j = if 0 ≤ j ∧ j ≤ 63 then (gM (64 * t + j).toNat).toInt else 0
        rw [if_pos ⟨j0, j1⟩, ct]
        exact (k4 (by omega) j j0 (by omega)).symm
      · show p.1.2.1 = (gS t.toNat).toInt
        rw [e1, uS]
      · show p.1.2.2.2 = (gP t.toNat).toInt
        rw [e3, uP]
    · exact k t tt1 (by omega))
  exact ⟨p, fun _ => rfl, ⟨(fun q h => by cases h), fun q h => (by cases h), (fun f h => by cases h), (aAllc ⟨_, rfl, (rF_b (r := 2738) (by decide) rfl).mpr q0⟩ (fun f h => by cases h))⟩, [], List.mem_cons_self, fun f h => (by cases h)⟩
theorem rw_rvA1 {K : Nat → Nat} {n : Nat} {JX : (Nat → jcell) → Prop} : aGho (rF K n) fa_T K n JX ag_rvA1 := by
  refine aGho_of ⟨rfl, rfl⟩ ?_
  intro p σ ρ hH hX hA hM0
  have hG := aAG_of hA.1 (fun i e v he hv => (hA.2 i e v he hv).1)
  clear hA
  obtain ⟨v0, v1, v2, v3, v4, v5, rfl, g0, g1, g2, g3, g4, g5⟩ := rA_6 hG
  clear hG
  obtain ⟨x0, rfl, b0, d0⟩ := rG_ref (by decide) g0
  obtain ⟨x1, rfl, b1, d1⟩ := aG_int g1
  dsimp only at b1 d1
  obtain ⟨x2, rfl, b2, d2⟩ := aG_int g2
  dsimp only at b2 d2
  obtain ⟨x3, rfl, b3, d3⟩ := aG_int g3
  dsimp only at b3 d3
  obtain ⟨x4, rfl, b4, d4⟩ := aG_int g4
  dsimp only at b4 d4
  obtain ⟨x5, rfl, b5, d5⟩ := rG_ref (by decide) g5
  obtain ⟨m1, m2, m3, m4⟩ := hM0
  obtain ⟨M, hM⟩ := rMe_ex hH b0 d0
  obtain ⟨a0, c0, fs0, w0, e1, s0, t0, e4⟩ := m1 (0, 10, 5) (List.mem_of_getElem? (i := 0) rfl)
  obtain rfl : x0 = a0 := Sum.inl.inj (Option.some.inj (Sum.inr.inj (Sum.inr.inj (Option.some.inj (show some (rR x0) = some _ from e1)))))
  obtain rfl : rR x5 = w0 := Option.some.inj (show some (rR x5) = some w0 from e4)
  clear e1 e4
  obtain ⟨a1, c1, fs1, w1, e1, s1, t1, e4⟩ := m1 (0, 3, 3) (List.mem_of_getElem? (i := 1) rfl)
  obtain rfl : x0 = a1 := Sum.inl.inj (Option.some.inj (Sum.inr.inj (Sum.inr.inj (Option.some.inj (show some (rR x0) = some _ from e1)))))
  obtain rfl : rI x3 = w1 := Option.some.inj (show some (rI x3) = some w1 from e4)
  clear e1 e4
  obtain ⟨a, mc0, ty0, gc0, ic0, e1, sc0, jc0, e4, e5⟩ := m2 (5, ([(1, 1)], 0), 2) (List.mem_of_getElem? (i := 0) rfl)
  obtain rfl : x5 = a := Sum.inl.inj (Option.some.inj (Sum.inr.inj (Sum.inr.inj (Option.some.inj (show some (rR x5) = some _ from e1)))))
  obtain ⟨gc0, rfl⟩ : ∃ g, gc0 = .inl g := by
    rcases gc0 with g | g
    · exact ⟨g, rfl⟩
    · exact absurd (show some (rI x2) = some (.inr (.inl (g ic0))) from e5) (fun h => by cases h)
  have sc0 : σ x5 = .inl (ty0, mc0, .inl gc0) := sc0
  have ec0 : x2 = gc0 ic0 := Sum.inl.inj (Option.some.inj (show some (rI x2) = some _ from e5))
  have kc0 : (ic0 : Int) = (1 * x1.toInt + 0) + 0 := by
    obtain ⟨z, e6, e7⟩ := e4
    obtain rfl : (1 * x1.toInt + 0) = z := Option.some.inj (show some (1 * x1.toInt + 0) = some z from e6)
    exact e7
  clear e1 e4 e5
  have l0 : 0 ≤ (1 * x2.toInt + (-1 * x3.toInt + 0)) + 0 := by
    obtain ⟨z, e6, e7⟩ := m3 ([(2, 1), (3, -1)], 0) (List.mem_of_getElem? (i := 0) rfl)
    obtain rfl : (1 * x2.toInt + (-1 * x3.toInt + 0)) = z := Option.some.inj (show some (1 * x2.toInt + (-1 * x3.toInt + 0)) = some z from e6)
    exact e7
  have l1 : 0 ≤ (-1 * x2.toInt + (1 * x3.toInt + 0)) + 0 := by
    obtain ⟨z, e6, e7⟩ := m3 ([(2, -1), (3, 1)], 0) (List.mem_of_getElem? (i := 1) rfl)
    obtain rfl : (-1 * x2.toInt + (1 * x3.toInt + 0)) = z := Option.some.inj (show some (-1 * x2.toInt + (1 * x3.toInt + 0)) = some z from e6)
    exact e7
  clear m1 m2 m3 m4
  have q0 : rB K n p 175 [rR x0, rI x1, rI x4] σ := ro_175.mpr (by
    intro _
    obtain ⟨gM, hgM⟩ := rRo_ex (ko := 88) (f := 9) (kr := 91) (len := 19520) hH rfl rfl rfl (by decide) b0 d0
    obtain ⟨gS, hgS⟩ := rRo_of (k := 88) (f := 10) hH b0 d0 s0 t0 b5 d5 rfl
    have e1 := rRo_c (i := ic0) hgS s0 t0 sc0 ec0
    rw [show ic0 = x1.toInt.toNat by omega] at e1
    exact ⟨gM, gS, M, x3, hgM, hgS, hM, ⟨b0, d0, _, _, s1, t1⟩, b1, by omega, fun j h1 h2 => by omega⟩)
  exact ⟨p, fun _ => rfl, ⟨(fun q h => by cases h), fun q h => (by cases h), (fun f h => by cases h), (aAllc ⟨_, rfl, (rF_b (r := 2803) (by decide) rfl).mpr q0⟩ (fun f h => by cases h))⟩, [], List.mem_cons_self, fun f h => (by cases h)⟩
theorem rw_rvA0 {K : Nat → Nat} {n : Nat} {JX : (Nat → jcell) → Prop} : aGho (rF K n) fa_T K n JX ag_rvA0 := by
  refine aGho_of ⟨rfl, rfl⟩ ?_
  intro p σ ρ hH hX hA hM0
  have hG := aAG_of hA.1 (fun i e v he hv => (hA.2 i e v he hv).1)
  clear hA
  obtain ⟨v0, v1, v2, rfl, g0, g1, g2⟩ := rA_3 hG
  clear hG
  obtain ⟨x0, rfl, b0, d0⟩ := rG_ref (by decide) g0
  obtain ⟨x1, rfl, b1, d1⟩ := aG_int g1
  dsimp only at b1 d1
  obtain ⟨x2, rfl, b2, d2⟩ := aG_int g2
  dsimp only at b2 d2
  obtain ⟨m1, m2, m3, m4⟩ := hM0
  obtain ⟨M, hM⟩ := rMe_ex hH b0 d0
  clear m1 m2 m3 m4
  have q0 : rB K n p 175 [rR x0, rI x1, rI x2] σ := ro_175.mpr (by
    intro h
    omega)
  exact ⟨p, fun _ => rfl, ⟨(fun q h => by cases h), fun q h => (by cases h), (fun f h => by cases h), (aAllc ⟨_, rfl, (rF_b (r := 2803) (by decide) rfl).mpr q0⟩ (fun f h => by cases h))⟩, [], List.mem_cons_self, fun f h => (by cases h)⟩
theorem rw_rvAi {K : Nat → Nat} {n : Nat} {JX : (Nat → jcell) → Prop} : aGho (rF K n) fa_T K n JX ag_rvAi := by
  refine aGho_of ⟨rfl, rfl⟩ ?_
  intro p σ ρ hH hX hA hM0
  have hG := aAG_of hA.1 (fun i e v he hv => (hA.2 i e v he hv).1)
  clear hA
  obtain ⟨v0, v1, v2, v3, rfl, g0, g1, g2, g3⟩ := rA_4 hG
  clear hG
  obtain ⟨x0, rfl, b0, d0⟩ := rG_ref (by decide) g0
  obtain ⟨x1, rfl, b1, d1⟩ := aG_int g1
  dsimp only at b1 d1
  obtain ⟨x2, rfl, b2, d2⟩ := aG_int g2
  dsimp only at b2 d2
  obtain ⟨x3, rfl, b3, d3⟩ := aG_int g3
  dsimp only at b3 d3
  obtain ⟨m1, m2, m3, m4⟩ := hM0
  obtain ⟨M, hM⟩ := rMe_ex hH b0 d0
  have f0 : rB K n p 175 [rR x0, rI x1, rI x3] σ := by
    obtain ⟨w, e6, e7⟩ := m4 (2803, [0, 1, 3]) (List.mem_of_getElem? (i := 0) rfl)
    obtain rfl : [rR x0, rI x1, rI x3] = w := Option.some.inj (show some [rR x0, rI x1, rI x3] = some w from e6)
    exact (rF_b (r := 2803) (by decide) rfl).mp e7
  have f0 := ro_175.mp f0
  clear m1 m2 m3 m4
  have q0 : rB K n p 176 [rR x0, rI x1, rI x2, rI x3] σ := ro_176.mpr (by
    intro h
    rw [show x2.toInt = 0 by omega]
    exact f0 h)
  exact ⟨p, fun _ => rfl, ⟨(fun q h => by cases h), fun q h => (by cases h), (fun f h => by cases h), (aAllc ⟨_, rfl, (rF_b (r := 2820) (by decide) rfl).mpr q0⟩ (fun f h => by cases h))⟩, [], List.mem_cons_self, fun f h => (by cases h)⟩
theorem rw_rvAs1 {K : Nat → Nat} {n : Nat} {JX : (Nat → jcell) → Prop} : aGho (rF K n) fa_T K n JX ag_rvAs1 := by
  refine aGho_of ⟨rfl, rfl⟩ ?_
  intro p σ ρ hH hX hA hM0
  have hG := aAG_of hA.1 (fun i e v he hv => (hA.2 i e v he hv).1)
  clear hA
  obtain ⟨v0, v1, v2, v3, v4, v5, v6, v7, v8, rfl, g0, g1, g2, g3, g4, g5, g6, g7, g8⟩ := rA_9 hG
  clear hG
  obtain ⟨x0, rfl, b0, d0⟩ := rG_ref (by decide) g0
  obtain ⟨x1, rfl, b1, d1⟩ := aG_int g1
  dsimp only at b1 d1
  obtain ⟨x2, rfl, b2, d2⟩ := aG_int g2
  dsimp only at b2 d2
  obtain ⟨x3, rfl, b3, d3⟩ := aG_int g3
  dsimp only at b3 d3
  obtain ⟨x4, rfl, b4, d4⟩ := aG_int g4
  dsimp only at b4 d4
  obtain ⟨x5, rfl, b5, d5⟩ := aG_int g5
  dsimp only at b5 d5
  obtain ⟨x6, rfl, b6, d6⟩ := aG_int g6
  dsimp only at b6 d6
  obtain ⟨x7, rfl, b7, d7⟩ := rG_ref (by decide) g7
  obtain ⟨x8, rfl, b8, d8⟩ := rG_ref (by decide) g8
  obtain ⟨m1, m2, m3, m4⟩ := hM0
  obtain ⟨M, hM⟩ := rMe_ex hH b0 d0
  obtain ⟨a0, c0, fs0, w0, e1, s0, t0, e4⟩ := m1 (0, 2, 7) (List.mem_of_getElem? (i := 0) rfl)
  obtain rfl : x0 = a0 := Sum.inl.inj (Option.some.inj (Sum.inr.inj (Sum.inr.inj (Option.some.inj (show some (rR x0) = some _ from e1)))))
  obtain rfl : rR x7 = w0 := Option.some.inj (show some (rR x7) = some w0 from e4)
  clear e1 e4
  obtain ⟨a1, c1, fs1, w1, e1, s1, t1, e4⟩ := m1 (0, 9, 8) (List.mem_of_getElem? (i := 1) rfl)
  obtain rfl : x0 = a1 := Sum.inl.inj (Option.some.inj (Sum.inr.inj (Sum.inr.inj (Option.some.inj (show some (rR x0) = some _ from e1)))))
  obtain rfl : rR x8 = w1 := Option.some.inj (show some (rR x8) = some w1 from e4)
  clear e1 e4
  obtain ⟨a, mc0, ty0, gc0, ic0, e1, sc0, jc0, e4, e5⟩ := m2 (7, ([(2, 1)], 0), 4) (List.mem_of_getElem? (i := 0) rfl)
  obtain rfl : x7 = a := Sum.inl.inj (Option.some.inj (Sum.inr.inj (Sum.inr.inj (Option.some.inj (show some (rR x7) = some _ from e1)))))
  obtain ⟨gc0, rfl⟩ : ∃ g, gc0 = .inl g := by
    rcases gc0 with g | g
    · exact ⟨g, rfl⟩
    · exact absurd (show some (rI x4) = some (.inr (.inl (g ic0))) from e5) (fun h => by cases h)
  have sc0 : σ x7 = .inl (ty0, mc0, .inl gc0) := sc0
  have ec0 : x4 = gc0 ic0 := Sum.inl.inj (Option.some.inj (show some (rI x4) = some _ from e5))
  have kc0 : (ic0 : Int) = (1 * x2.toInt + 0) + 0 := by
    obtain ⟨z, e6, e7⟩ := e4
    obtain rfl : (1 * x2.toInt + 0) = z := Option.some.inj (show some (1 * x2.toInt + 0) = some z from e6)
    exact e7
  clear e1 e4 e5
  obtain ⟨a, mc1, ty1, gc1, ic1, e1, sc1, jc1, e4, e5⟩ := m2 (8, ([(1, 64), (2, 1)], 0), 3) (List.mem_of_getElem? (i := 1) rfl)
  obtain rfl : x8 = a := Sum.inl.inj (Option.some.inj (Sum.inr.inj (Sum.inr.inj (Option.some.inj (show some (rR x8) = some _ from e1)))))
  obtain ⟨gc1, rfl⟩ : ∃ g, gc1 = .inl g := by
    rcases gc1 with g | g
    · exact ⟨g, rfl⟩
    · exact absurd (show some (rI x3) = some (.inr (.inl (g ic1))) from e5) (fun h => by cases h)
  have sc1 : σ x8 = .inl (ty1, mc1, .inl gc1) := sc1
  have ec1 : x3 = gc1 ic1 := Sum.inl.inj (Option.some.inj (show some (rI x3) = some _ from e5))
  have kc1 : (ic1 : Int) = (64 * x1.toInt + (1 * x2.toInt + 0)) + 0 := by
    obtain ⟨z, e6, e7⟩ := e4
    obtain rfl : (64 * x1.toInt + (1 * x2.toInt + 0)) = z := Option.some.inj (show some (64 * x1.toInt + (1 * x2.toInt + 0)) = some z from e6)
    exact e7
  clear e1 e4 e5
  have l0 : 0 ≤ (1 * x3.toInt + (-1 * x4.toInt + 0)) + 0 := by
    obtain ⟨z, e6, e7⟩ := m3 ([(3, 1), (4, -1)], 0) (List.mem_of_getElem? (i := 0) rfl)
    obtain rfl : (1 * x3.toInt + (-1 * x4.toInt + 0)) = z := Option.some.inj (show some (1 * x3.toInt + (-1 * x4.toInt + 0)) = some z from e6)
    exact e7
  have l1 : 0 ≤ (-1 * x3.toInt + (1 * x4.toInt + 0)) + 0 := by
    obtain ⟨z, e6, e7⟩ := m3 ([(3, -1), (4, 1)], 0) (List.mem_of_getElem? (i := 1) rfl)
    obtain rfl : (-1 * x3.toInt + (1 * x4.toInt + 0)) = z := Option.some.inj (show some (-1 * x3.toInt + (1 * x4.toInt + 0)) = some z from e6)
    exact e7
  have y0 : M x2.toInt = x4.toInt := rMg_c hM s0 t0 sc0 (by omega) (by omega) (by omega) ec0
  have f0 : rB K n p 176 [rR x0, rI x1, rI x2, rI x5] σ := by
    obtain ⟨w, e6, e7⟩ := m4 (2820, [0, 1, 2, 5]) (List.mem_of_getElem? (i := 0) rfl)
    obtain rfl : [rR x0, rI x1, rI x2, rI x5] = w := Option.some.inj (show some [rR x0, rI x1, rI x2, rI x5] = some w from e6)
    exact (rF_b (r := 2820) (by decide) rfl).mp e7
  have f0 := ro_176.mp f0
  clear m1 m2 m3 m4
  have q0 : rB K n p 177 [rR x0, rI x1, rI x2, rI x6] σ := ro_177.mpr (by
    intro _
    obtain ⟨gM, gS, M9, v, h1, h2, h3, h4, h5, h6, h7⟩ := f0 (by omega)
    obtain rfl := rMg_u hM h3
    refine ⟨gM, gS, _, v, h1, h2, hM, h4, h5, h6, fun j j0 j1 j2 => ?_⟩
    by_cases cj : j = x2.toInt
    · have e1 := rRo_c (i := ic1) h1 s1 t1 sc1 ec1
      rw [show ic1 = (64 * x1.toInt + x2.toInt).toNat by omega] at e1
      rw [cj, e1]
      omega
    · exact h7 j j0 (by omega) j2)
  exact ⟨p, fun _ => rfl, ⟨(fun q h => by cases h), fun q h => (by cases h), (fun f h => by cases h), (aAllc ⟨_, rfl, (rF_b (r := 2836) (by decide) rfl).mpr q0⟩ (fun f h => by cases h))⟩, [], List.mem_cons_self, fun f h => (by cases h)⟩
theorem rw_rvAs0 {K : Nat → Nat} {n : Nat} {JX : (Nat → jcell) → Prop} : aGho (rF K n) fa_T K n JX ag_rvAs0 := by
  refine aGho_of ⟨rfl, rfl⟩ ?_
  intro p σ ρ hH hX hA hM0
  have hG := aAG_of hA.1 (fun i e v he hv => (hA.2 i e v he hv).1)
  clear hA
  obtain ⟨v0, v1, v2, v3, rfl, g0, g1, g2, g3⟩ := rA_4 hG
  clear hG
  obtain ⟨x0, rfl, b0, d0⟩ := rG_ref (by decide) g0
  obtain ⟨x1, rfl, b1, d1⟩ := aG_int g1
  dsimp only at b1 d1
  obtain ⟨x2, rfl, b2, d2⟩ := aG_int g2
  dsimp only at b2 d2
  obtain ⟨x3, rfl, b3, d3⟩ := aG_int g3
  dsimp only at b3 d3
  obtain ⟨m1, m2, m3, m4⟩ := hM0
  obtain ⟨M, hM⟩ := rMe_ex hH b0 d0
  clear m1 m2 m3 m4
  have q0 : rB K n p 177 [rR x0, rI x1, rI x2, rI x3] σ := ro_177.mpr (by
    intro h
    omega)
  exact ⟨p, fun _ => rfl, ⟨(fun q h => by cases h), fun q h => (by cases h), (fun f h => by cases h), (aAllc ⟨_, rfl, (rF_b (r := 2836) (by decide) rfl).mpr q0⟩ (fun f h => by cases h))⟩, [], List.mem_cons_self, fun f h => (by cases h)⟩
theorem rw_rvAn {K : Nat → Nat} {n : Nat} {JX : (Nat → jcell) → Prop} : aGho (rF K n) fa_T K n JX ag_rvAn := by
  refine aGho_of ⟨rfl, rfl⟩ ?_
  intro p σ ρ hH hX hA hM0
  have hG := aAG_of hA.1 (fun i e v he hv => (hA.2 i e v he hv).1)
  clear hA
  obtain ⟨v0, v1, v2, v3, v4, rfl, g0, g1, g2, g3, g4⟩ := rA_5 hG
  clear hG
  obtain ⟨x0, rfl, b0, d0⟩ := rG_ref (by decide) g0
  obtain ⟨x1, rfl, b1, d1⟩ := aG_int g1
  dsimp only at b1 d1
  obtain ⟨x2, rfl, b2, d2⟩ := aG_int g2
  dsimp only at b2 d2
  obtain ⟨x3, rfl, b3, d3⟩ := aG_int g3
  dsimp only at b3 d3
  obtain ⟨x4, rfl, b4, d4⟩ := aG_int g4
  dsimp only at b4 d4
  obtain ⟨m1, m2, m3, m4⟩ := hM0
  obtain ⟨M, hM⟩ := rMe_ex hH b0 d0
  have l0 : 0 ≤ (1 * x4.toInt + (-1 * x2.toInt + 0)) + -1 := by
    obtain ⟨z, e6, e7⟩ := m3 ([(4, 1), (2, -1)], -1) (List.mem_of_getElem? (i := 0) rfl)
    obtain rfl : (1 * x4.toInt + (-1 * x2.toInt + 0)) = z := Option.some.inj (show some (1 * x4.toInt + (-1 * x2.toInt + 0)) = some z from e6)
    exact e7
  have l1 : 0 ≤ (-1 * x4.toInt + (1 * x2.toInt + 0)) + 1 := by
    obtain ⟨z, e6, e7⟩ := m3 ([(4, -1), (2, 1)], 1) (List.mem_of_getElem? (i := 1) rfl)
    obtain rfl : (-1 * x4.toInt + (1 * x2.toInt + 0)) = z := Option.some.inj (show some (-1 * x4.toInt + (1 * x2.toInt + 0)) = some z from e6)
    exact e7
  have f0 : rB K n p 177 [rR x0, rI x1, rI x2, rI x3] σ := by
    obtain ⟨w, e6, e7⟩ := m4 (2836, [0, 1, 2, 3]) (List.mem_of_getElem? (i := 0) rfl)
    obtain rfl : [rR x0, rI x1, rI x2, rI x3] = w := Option.some.inj (show some [rR x0, rI x1, rI x2, rI x3] = some w from e6)
    exact (rF_b (r := 2836) (by decide) rfl).mp e7
  have f0 := ro_177.mp f0
  clear m1 m2 m3 m4
  have q0 : rB K n p 176 [rR x0, rI x1, rI x4, rI x3] σ := ro_176.mpr (by
    intro h
    rw [show x4.toInt = x2.toInt + 1 by omega]
    exact f0 h)
  exact ⟨p, fun _ => rfl, ⟨(fun q h => by cases h), fun q h => (by cases h), (fun f h => by cases h), (aAllc ⟨_, rfl, (rF_b (r := 2820) (by decide) rfl).mpr q0⟩ (fun f h => by cases h))⟩, [], List.mem_cons_self, fun f h => (by cases h)⟩
theorem rw_rvAe {K : Nat → Nat} {n : Nat} {JX : (Nat → jcell) → Prop} : aGho (rF K n) fa_T K n JX ag_rvAe := by
  refine aGho_of ⟨rfl, rfl⟩ ?_
  intro p σ ρ hH hX hA hM0
  have hG := aAG_of hA.1 (fun i e v he hv => (hA.2 i e v he hv).1)
  clear hA
  obtain ⟨v0, v1, v2, v3, rfl, g0, g1, g2, g3⟩ := rA_4 hG
  clear hG
  obtain ⟨x0, rfl, b0, d0⟩ := rG_ref (by decide) g0
  obtain ⟨x1, rfl, b1, d1⟩ := aG_int g1
  dsimp only at b1 d1
  obtain ⟨x2, rfl, b2, d2⟩ := aG_int g2
  dsimp only at b2 d2
  obtain ⟨x3, rfl, b3, d3⟩ := aG_int g3
  dsimp only at b3 d3
  obtain ⟨m1, m2, m3, m4⟩ := hM0
  obtain ⟨M, hM⟩ := rMe_ex hH b0 d0
  have f0 : rB K n p 176 [rR x0, rI x1, rI x2, rI x3] σ := by
    obtain ⟨w, e6, e7⟩ := m4 (2820, [0, 1, 2, 3]) (List.mem_of_getElem? (i := 0) rfl)
    obtain rfl : [rR x0, rI x1, rI x2, rI x3] = w := Option.some.inj (show some [rR x0, rI x1, rI x2, rI x3] = some w from e6)
    exact (rF_b (r := 2820) (by decide) rfl).mp e7
  have f0 := ro_176.mp f0
  clear m1 m2 m3 m4
  have q0 : rB K n p 174 [rR x0, rI x1, rI x3] σ := ro_174.mpr (by
    intro h
    have h2 := f0 h
    rw [show x2.toInt = 64 by omega] at h2
    exact h2)
  exact ⟨p, fun _ => rfl, ⟨(fun q h => by cases h), fun q h => (by cases h), (fun f h => by cases h), (aAllc ⟨_, rfl, (rF_b (r := 2787) (by decide) rfl).mpr q0⟩ (fun f h => by cases h))⟩, [], List.mem_cons_self, fun f h => (by cases h)⟩
theorem rw_rvAe0 {K : Nat → Nat} {n : Nat} {JX : (Nat → jcell) → Prop} : aGho (rF K n) fa_T K n JX ag_rvAe0 := by
  refine aGho_of ⟨rfl, rfl⟩ ?_
  intro p σ ρ hH hX hA hM0
  have hG := aAG_of hA.1 (fun i e v he hv => (hA.2 i e v he hv).1)
  clear hA
  obtain ⟨v0, v1, v2, rfl, g0, g1, g2⟩ := rA_3 hG
  clear hG
  obtain ⟨x0, rfl, b0, d0⟩ := rG_ref (by decide) g0
  obtain ⟨x1, rfl, b1, d1⟩ := aG_int g1
  dsimp only at b1 d1
  obtain ⟨x2, rfl, b2, d2⟩ := aG_int g2
  dsimp only at b2 d2
  obtain ⟨m1, m2, m3, m4⟩ := hM0
  obtain ⟨M, hM⟩ := rMe_ex hH b0 d0
  clear m1 m2 m3 m4
  have q0 : rB K n p 174 [rR x0, rI x1, rI x2] σ := ro_174.mpr (by
    intro h
    omega)
  exact ⟨p, fun _ => rfl, ⟨(fun q h => by cases h), fun q h => (by cases h), (fun f h => by cases h), (aAllc ⟨_, rfl, (rF_b (r := 2787) (by decide) rfl).mpr q0⟩ (fun f h => by cases h))⟩, [], List.mem_cons_self, fun f h => (by cases h)⟩
theorem rw_rvMP1 {K : Nat → Nat} {n : Nat} {JX : (Nat → jcell) → Prop} : aGho (rF K n) fa_T K n JX ag_rvMP1 := by
  refine aGho_of ⟨rfl, rfl⟩ ?_
  intro p σ ρ hH hX hA hM0
  have hG := aAG_of hA.1 (fun i e v he hv => (hA.2 i e v he hv).1)
  clear hA
  obtain ⟨v0, v1, rfl, g0, g1⟩ := rA_2 hG
  clear hG
  obtain ⟨x0, rfl, b0, d0⟩ := rG_ref (by decide) g0
  obtain ⟨x1, rfl, b1, d1⟩ := aG_int g1
  dsimp only at b1 d1
  obtain ⟨m1, m2, m3, m4⟩ := hM0
  obtain ⟨M, hM⟩ := rMe_ex hH b0 d0
  have f0 : rB K n p 22 [rR x0] σ := by
    obtain ⟨w, e6, e7⟩ := m4 (353, [0]) (List.mem_of_getElem? (i := 0) rfl)
    obtain rfl : [rR x0] = w := Option.some.inj (show some [rR x0] = some w from e6)
    exact (rF_b (r := 353) (by decide) rfl).mp e7
  obtain ⟨hp, hR⟩ := ro_22.mp f0
  obtain rfl := rMg_u hM hR.1
  clear m1 m2 m3 m4
  have q0 : rB K n (rSh rS1 p [rI x1, rI x1]) 22 [rR x0] (jup σ x0 (jstf (σ x0) 5 (rI x1))) := ro_22.mpr (by
    rw [rSh_pa hp]
    exact ⟨rfl, rRX_p hR⟩)
  exact ⟨p, fun _ => rfl, ⟨(fun q h => by cases h), fun q h => (by cases h), (fun f h => by cases h), (aAllc ⟨_, rfl, rF_pf (r := 353) (f := 5) (by decide) (by decide) q0⟩ (fun f h => by cases h))⟩, [], List.mem_cons_self, fun f h => (by cases h)⟩
theorem rw_rvMP2 {K : Nat → Nat} {n : Nat} {JX : (Nat → jcell) → Prop} : aGho (rF K n) fa_T K n JX ag_rvMP2 := by
  refine aGho_of ⟨rfl, rfl⟩ ?_
  intro p σ ρ hH hX hA hM0
  have hG := aAG_of hA.1 (fun i e v he hv => (hA.2 i e v he hv).1)
  clear hA
  obtain ⟨v0, v1, v2, rfl, g0, g1, g2⟩ := rA_3 hG
  clear hG
  obtain ⟨x0, rfl, b0, d0⟩ := rG_ref (by decide) g0
  obtain ⟨x1, rfl, b1, d1⟩ := aG_int g1
  dsimp only at b1 d1
  obtain ⟨x2, rfl, b2, d2⟩ := aG_int g2
  dsimp only at b2 d2
  obtain ⟨m1, m2, m3, m4⟩ := hM0
  obtain ⟨M, hM⟩ := rMe_ex hH b0 d0
  have f0 : rB K n (rSh rS1 p [rI x1, rI x1]) 22 [rR x0] σ := by
    obtain ⟨w, e6, e7⟩ := m4 (353, [0, 1, 1]) (List.mem_of_getElem? (i := 0) rfl)
    obtain rfl : [rR x0, rI x1, rI x1] = w := Option.some.inj (show some [rR x0, rI x1, rI x1] = some w from e6)
    exact (rF_g (r := 353) (by decide)).mp e7
  obtain ⟨hq9, hR⟩ := ro_22.mp f0
  have hp : p.2 = none := rSh_n2 hq9
  clear hq9
  rw [rSh_pa hp] at hR
  obtain rfl : M = p.1.1 := rMg_u hM hR.1
  have f1 : rB K n p 69 [rI x2] σ := by
    obtain ⟨w, e6, e7⟩ := m4 (1105, [2]) (List.mem_of_getElem? (i := 1) rfl)
    obtain rfl : [rI x2] = w := Option.some.inj (show some [rI x2] = some w from e6)
    exact (rF_b (r := 1105) (by decide) rfl).mp e7
  have f1 := ro_69.mp f1
  clear m1 m2 m3 m4
  have q0 : rB K n p 22 [rR x0] (jup σ x0 (jstf (σ x0) 5 (rI x2))) := ro_22.mpr (by
    have h := rRX_p (x := x2) hR
    rw [f1] at h
    exact ⟨hp, h⟩)
  exact ⟨p, fun _ => rfl, ⟨(fun q h => by cases h), fun q h => (by cases h), (fun f h => by cases h), (aAllc ⟨_, rfl, rF_pf (r := 353) (f := 5) (by decide) (by decide) q0⟩ (fun f h => by cases h))⟩, [], List.mem_cons_self, fun f h => (by cases h)⟩
theorem rw_rvMPs {K : Nat → Nat} {n : Nat} {JX : (Nat → jcell) → Prop} : aGho (rF K n) fa_T K n JX ag_rvMPs := by
  refine aGho_of ⟨rfl, rfl⟩ ?_
  intro p σ ρ hH hX hA hM0
  have hG := aAG_of hA.1 (fun i e v he hv => (hA.2 i e v he hv).1)
  clear hA
  obtain ⟨v0, v1, v2, v3, rfl, g0, g1, g2, g3⟩ := rA_4 hG
  clear hG
  obtain ⟨x0, rfl, b0, d0⟩ := rG_ref (by decide) g0
  obtain ⟨x1, rfl, b1, d1⟩ := aG_int g1
  dsimp only at b1 d1
  obtain ⟨x2, rfl, b2, d2⟩ := aG_int g2
  dsimp only at b2 d2
  obtain ⟨x3, rfl, b3, d3⟩ := aG_int g3
  dsimp only at b3 d3
  obtain ⟨m1, m2, m3, m4⟩ := hM0
  obtain ⟨M, hM⟩ := rMe_ex hH b0 d0
  obtain ⟨a0, c0, fs0, w0, e1, s0, t0, e4⟩ := m1 (0, 3, 3) (List.mem_of_getElem? (i := 0) rfl)
  obtain rfl : x0 = a0 := Sum.inl.inj (Option.some.inj (Sum.inr.inj (Sum.inr.inj (Option.some.inj (show some (rR x0) = some _ from e1)))))
  obtain rfl : rI x3 = w0 := Option.some.inj (show some (rI x3) = some w0 from e4)
  clear e1 e4
  have f0 : rB K n (rSh rS1 p [rI x1, rI x1]) 22 [rR x0] σ := by
    obtain ⟨w, e6, e7⟩ := m4 (353, [0, 1, 1]) (List.mem_of_getElem? (i := 0) rfl)
    obtain rfl : [rR x0, rI x1, rI x1] = w := Option.some.inj (show some [rR x0, rI x1, rI x1] = some w from e6)
    exact (rF_g (r := 353) (by decide)).mp e7
  obtain ⟨hq9, hR⟩ := ro_22.mp f0
  have hp : p.2 = none := rSh_n2 hq9
  clear hq9
  rw [rSh_pa hp] at hR
  obtain rfl : M = p.1.1 := rMg_u hM hR.1
  have uS : ((p.1.1, p.1.2.1, p.1.2.2.1, x1.toInt) : rQ).2.1 = x3.toInt := rRX_f hR.2.1 s0 t0
  have f1 : rB K n p 67 [rI x2] σ := by
    obtain ⟨w, e6, e7⟩ := m4 (1073, [2]) (List.mem_of_getElem? (i := 1) rfl)
    obtain rfl : [rI x2] = w := Option.some.inj (show some [rI x2] = some w from e6)
    exact (rF_b (r := 1073) (by decide) rfl).mp e7
  have f1 := ro_67.mp f1
  clear m1 m2 m3 m4
  have r0 : 0 ≤ (1 * x3.toInt + (-1 * x2.toInt + 0)) + 0 := by
    have h : p.1.2.1 = x3.toInt := uS
    omega
  have r1 : 0 ≤ (-1 * x3.toInt + (1 * x2.toInt + 0)) + 0 := by
    have h : p.1.2.1 = x3.toInt := uS
    omega
  exact ⟨p, fun _ => rfl, ⟨(fun q h => by cases h), fun q h => (by cases h), (aAllc ⟨_, rfl, r0⟩ (aAllc ⟨_, rfl, r1⟩ (fun f h => by cases h))), (fun f h => by cases h)⟩, [], List.mem_cons_self, fun f h => (by cases h)⟩
theorem rw_rvMPl {K : Nat → Nat} {n : Nat} {JX : (Nat → jcell) → Prop} : aGho (rF K n) fa_T K n JX ag_rvMPl := by
  refine aGho_of ⟨rfl, rfl⟩ ?_
  intro p σ ρ hH hX hA hM0
  have hG := aAG_of hA.1 (fun i e v he hv => (hA.2 i e v he hv).1)
  clear hA
  obtain ⟨v0, v1, v2, v3, v4, v5, v6, v7, v8, rfl, g0, g1, g2, g3, g4, g5, g6, g7, g8⟩ := rA_9 hG
  clear hG
  obtain ⟨x0, rfl, b0, d0⟩ := rG_ref (by decide) g0
  obtain ⟨x1, rfl, b1, d1⟩ := aG_int g1
  dsimp only at b1 d1
  obtain ⟨x2, rfl, b2, d2⟩ := aG_int g2
  dsimp only at b2 d2
  obtain ⟨x3, rfl, b3, d3⟩ := aG_int g3
  dsimp only at b3 d3
  obtain ⟨x4, rfl, b4, d4⟩ := aG_int g4
  dsimp only at b4 d4
  obtain ⟨x5, rfl, b5, d5⟩ := aG_int g5
  dsimp only at b5 d5
  obtain ⟨x6, rfl, b6, d6⟩ := aG_int g6
  dsimp only at b6 d6
  obtain ⟨x7, rfl, b7, d7⟩ := aG_int g7
  dsimp only at b7 d7
  obtain ⟨x8, rfl, b8, d8⟩ := aG_int g8
  dsimp only at b8 d8
  obtain ⟨m1, m2, m3, m4⟩ := hM0
  obtain ⟨M, hM⟩ := rMe_ex hH b0 d0
  have l0 : 0 ≤ (1 * x3.toInt + (-2 * x7.toInt + 0)) + 1 := by
    obtain ⟨z, e6, e7⟩ := m3 ([(3, 1), (7, -2)], 1) (List.mem_of_getElem? (i := 0) rfl)
    obtain rfl : (1 * x3.toInt + (-2 * x7.toInt + 0)) = z := Option.some.inj (show some (1 * x3.toInt + (-2 * x7.toInt + 0)) = some z from e6)
    exact e7
  have l1 : 0 ≤ (-1 * x3.toInt + (2 * x7.toInt + 0)) + -1 := by
    obtain ⟨z, e6, e7⟩ := m3 ([(3, -1), (7, 2)], -1) (List.mem_of_getElem? (i := 1) rfl)
    obtain rfl : (-1 * x3.toInt + (2 * x7.toInt + 0)) = z := Option.some.inj (show some (-1 * x3.toInt + (2 * x7.toInt + 0)) = some z from e6)
    exact e7
  have l2 : 0 ≤ (1 * x5.toInt + (-8 * x7.toInt + 0)) + -1 := by
    obtain ⟨z, e6, e7⟩ := m3 ([(5, 1), (7, -8)], -1) (List.mem_of_getElem? (i := 2) rfl)
    obtain rfl : (1 * x5.toInt + (-8 * x7.toInt + 0)) = z := Option.some.inj (show some (1 * x5.toInt + (-8 * x7.toInt + 0)) = some z from e6)
    exact e7
  have l3 : 0 ≤ (-1 * x5.toInt + (8 * x7.toInt + 0)) + 1 := by
    obtain ⟨z, e6, e7⟩ := m3 ([(5, -1), (7, 8)], 1) (List.mem_of_getElem? (i := 3) rfl)
    obtain rfl : (-1 * x5.toInt + (8 * x7.toInt + 0)) = z := Option.some.inj (show some (-1 * x5.toInt + (8 * x7.toInt + 0)) = some z from e6)
    exact e7
  have l4 : 0 ≤ (1 * x8.toInt + (-1 * x4.toInt + (-64 * x1.toInt + 0))) + 0 := by
    obtain ⟨z, e6, e7⟩ := m3 ([(8, 1), (4, -1), (1, -64)], 0) (List.mem_of_getElem? (i := 4) rfl)
    obtain rfl : (1 * x8.toInt + (-1 * x4.toInt + (-64 * x1.toInt + 0))) = z := Option.some.inj (show some (1 * x8.toInt + (-1 * x4.toInt + (-64 * x1.toInt + 0))) = some z from e6)
    exact e7
  have l5 : 0 ≤ (-1 * x8.toInt + (1 * x4.toInt + (64 * x1.toInt + 0))) + 0 := by
    obtain ⟨z, e6, e7⟩ := m3 ([(8, -1), (4, 1), (1, 64)], 0) (List.mem_of_getElem? (i := 5) rfl)
    obtain rfl : (-1 * x8.toInt + (1 * x4.toInt + (64 * x1.toInt + 0))) = z := Option.some.inj (show some (-1 * x8.toInt + (1 * x4.toInt + (64 * x1.toInt + 0))) = some z from e6)
    exact e7
  have f0 : rB K n (rSh rS1 p [rI x1, rI x1]) 22 [rR x0] σ := by
    obtain ⟨w, e6, e7⟩ := m4 (353, [0, 1, 1]) (List.mem_of_getElem? (i := 0) rfl)
    obtain rfl : [rR x0, rI x1, rI x1] = w := Option.some.inj (show some [rR x0, rI x1, rI x1] = some w from e6)
    exact (rF_g (r := 353) (by decide)).mp e7
  obtain ⟨hq9, hR⟩ := ro_22.mp f0
  have hp : p.2 = none := rSh_n2 hq9
  clear hq9
  rw [rSh_pa hp] at hR
  obtain rfl : M = p.1.1 := rMg_u hM hR.1
  have f1 : rB K n (rSh rS1 p [rI x1, rI x1]) 24 [] σ := by
    obtain ⟨w, e6, e7⟩ := m4 (384, [1, 1]) (List.mem_of_getElem? (i := 1) rfl)
    obtain rfl : [rI x1, rI x1] = w := Option.some.inj (show some [rI x1, rI x1] = some w from e6)
    exact (rF_g (r := 384) (by decide)).mp e7
  have f1 := ro_24.mp f1
  have f2 : rB K n p 67 [rI x7] σ := by
    obtain ⟨w, e6, e7⟩ := m4 (1073, [7]) (List.mem_of_getElem? (i := 2) rfl)
    obtain rfl : [rI x7] = w := Option.some.inj (show some [rI x7] = some w from e6)
    exact (rF_b (r := 1073) (by decide) rfl).mp e7
  have f2 := ro_67.mp f2
  have f3 : rB K n p 120 [rI x1, rI x2, rI x3, rI x4] σ := by
    obtain ⟨w, e6, e7⟩ := m4 (1924, [1, 2, 3, 4]) (List.mem_of_getElem? (i := 3) rfl)
    obtain rfl : [rI x1, rI x2, rI x3, rI x4] = w := Option.some.inj (show some [rI x1, rI x2, rI x3, rI x4] = some w from e6)
    exact (rF_b (r := 1924) (by decide) rfl).mp e7
  have f3 := ro_120.mp f3
  have f4 : rB K n p 122 [rR x0, rI x4, rI x5, rI x6] σ := by
    obtain ⟨w, e6, e7⟩ := m4 (1956, [0, 4, 5, 6]) (List.mem_of_getElem? (i := 4) rfl)
    obtain rfl : [rR x0, rI x4, rI x5, rI x6] = w := Option.some.inj (show some [rR x0, rI x4, rI x5, rI x6] = some w from e6)
    exact (rF_b (r := 1956) (by decide) rfl).mp e7
  obtain ⟨M9, h9, f4⟩ := ro_122.mp f4
  obtain rfl := rMg_u hM h9
  clear h9
  clear m1 m2 m3 m4
  have q0 : rB K n (rSh rS1 p [rI x1, rI x1]) 25 [rI x8] σ := ro_25.mpr (by
    rw [rSh_pa hp] at f1 ⊢
    obtain ⟨d0', d1', hv, -, hps, -⟩ := f1
    have hps : x1.toInt = -1 ∨ (0 ≤ x1.toInt ∧ x1.toInt ≤ 63 ∧ p.1.1 x1.toInt = 0 ∧ ((p.1.2.1 = 0 ∧ x1.toInt / 8 = 5 ∧ p.1.1 (x1.toInt - 8) = 9) ∨ (p.1.2.1 = 1 ∧ x1.toInt / 8 = 2 ∧ p.1.1 (x1.toInt + 8) = 1))) := hps
    have hz : p.1.1 x4.toInt = 8 * p.1.2.1 + 1 := by omega
    have hb := (rSp_b b1 d1 f3 b4).1
    have hn : x2.toInt = -1 ∨ x2.toInt = 1 := by
      by_cases cz : x2.toInt = 0
      · exfalso
        have e4 : x4.toInt = x1.toInt + 8 * x3.toInt := by
          have h := f3
          unfold rSp at h
          split at h <;> omega
        rcases hps with h | ⟨-, -, -, h | h⟩
        · omega
        · rw [show x1.toInt - 8 = x4.toInt by omega] at h
          omega
        · rw [show x1.toInt + 8 = x4.toInt by omega] at h
          omega
      · omega
    obtain ⟨e1, e2, e3⟩ := rMv (m := x8.toInt) (f := x4.toInt) (t := x1.toInt) (b := 0) b4 d4 b1 d1 (by omega)
    refine ⟨by omega, by omega, ?_, ?_, ?_, Or.inr ⟨?_, e3⟩⟩
    · rw [e1]
      show ¬ p.1.1 x4.toInt = 0 ∧ p.1.1 x4.toInt / 8 = p.1.2.1
      omega
    · rw [e2]
      rintro ⟨h, -⟩
      have h : ¬ p.1.1 x1.toInt = 0 := h
      omega
    · rw [e1, e2]
      refine Or.inl ⟨?_, Or.inr ⟨-x2.toInt, by omega, b1, ?_, Or.inr rfl⟩⟩
      · show p.1.1 x4.toInt % 8 = 1
        omega
      · show x1.toInt = rSp x4.toInt (-x2.toInt) (1 - 2 * p.1.2.1)
        rw [show 1 - 2 * p.1.2.1 = -x3.toInt by omega, hb]
    · rw [e2]
      rintro ⟨-, h⟩
      omega)
  exact ⟨p, fun _ => rfl, ⟨(fun q h => by cases h), fun q h => (by cases h), (fun f h => by cases h), (aAllc ⟨_, rfl, (rF_g (r := 401) (by decide)).mpr q0⟩ (fun f h => by cases h))⟩, [], List.mem_cons_self, fun f h => (by cases h)⟩
theorem rw_rvHMp {K : Nat → Nat} {n : Nat} {JX : (Nat → jcell) → Prop} : aGho (rF K n) fa_T K n JX ag_rvHMp := by
  refine aGho_of ⟨rfl, rfl⟩ ?_
  intro p σ ρ hH hX hA hM0
  have hG := aAG_of hA.1 (fun i e v he hv => (hA.2 i e v he hv).1)
  clear hA
  obtain ⟨v0, v1, v2, v3, rfl, g0, g1, g2, g3⟩ := rA_4 hG
  clear hG
  obtain ⟨x0, rfl, b0, d0⟩ := rG_ref (by decide) g0
  obtain ⟨x1, rfl, b1, d1⟩ := aG_int g1
  dsimp only at b1 d1
  obtain ⟨x2, rfl, b2, d2⟩ := aG_int g2
  dsimp only at b2 d2
  obtain ⟨x3, rfl, b3, d3⟩ := aG_int g3
  dsimp only at b3 d3
  obtain ⟨m1, m2, m3, m4⟩ := hM0
  obtain ⟨M, hM⟩ := rMe_ex hH b0 d0
  have f0 : rB K n p 122 [rR x0, rI x1, rI x2, rI x3] σ := by
    obtain ⟨w, e6, e7⟩ := m4 (1956, [0, 1, 2, 3]) (List.mem_of_getElem? (i := 0) rfl)
    obtain rfl : [rR x0, rI x1, rI x2, rI x3] = w := Option.some.inj (show some [rR x0, rI x1, rI x2, rI x3] = some w from e6)
    exact (rF_b (r := 1956) (by decide) rfl).mp e7
  obtain ⟨M9, h9, f0⟩ := ro_122.mp f0
  obtain rfl := rMg_u hM h9
  clear h9
  clear m1 m2 m3 m4
  have hd : (0 ≤ (1 * x1.toInt + 0) + 0) := by
    omega
  have w0 := hd
  · exact ⟨p, fun _ => rfl, ⟨(fun q h => by cases h), fun q h => (by cases h), (fun f h => by cases h), (fun f h => by cases h)⟩, _, List.mem_of_getElem? (i := 0) rfl, (aAllc ⟨_, rfl, w0⟩ (fun f h => by cases h))⟩
theorem rw_rvPV {K : Nat → Nat} {n : Nat} {JX : (Nat → jcell) → Prop} : aGho (rF K n) fa_T K n JX ag_rvPV := by
  refine aGho_of ⟨rfl, rfl⟩ ?_
  intro p σ ρ hH hX hA hM0
  have hG := aAG_of hA.1 (fun i e v he hv => (hA.2 i e v he hv).1)
  clear hA
  obtain ⟨v0, rfl, g0⟩ := rA_1 hG
  clear hG
  obtain ⟨x0, rfl, b0, d0⟩ := aG_int g0
  dsimp only at b0 d0
  obtain ⟨m1, m2, m3, m4⟩ := hM0
  clear m1 m2 m3 m4
  have hd : (0 ≤ (1 * x0.toInt + 0) + 1 ∧ 0 ≤ (-1 * x0.toInt + 0) + -1) ∨ (0 ≤ (1 * x0.toInt + 0) + 0) := by
    omega
  rcases hd with ⟨w0, w1⟩ | w0
  · exact ⟨p, fun _ => rfl, ⟨(fun q h => by cases h), fun q h => (by cases h), (fun f h => by cases h), (fun f h => by cases h)⟩, _, List.mem_of_getElem? (i := 0) rfl, (aAllc ⟨_, rfl, w0⟩ (aAllc ⟨_, rfl, w1⟩ (fun f h => by cases h)))⟩
  · exact ⟨p, fun _ => rfl, ⟨(fun q h => by cases h), fun q h => (by cases h), (fun f h => by cases h), (fun f h => by cases h)⟩, _, List.mem_of_getElem? (i := 1) rfl, (aAllc ⟨_, rfl, w0⟩ (fun f h => by cases h))⟩
theorem rw_rvGP {K : Nat → Nat} {n : Nat} {JX : (Nat → jcell) → Prop} : aGho (rF K n) fa_T K n JX ag_rvGP := by
  refine aGho_of ⟨rfl, rfl⟩ ?_
  intro p σ ρ hH hX hA hM0
  have hG := aAG_of hA.1 (fun i e v he hv => (hA.2 i e v he hv).1)
  clear hA
  obtain ⟨v0, v1, rfl, g0, g1⟩ := rA_2 hG
  clear hG
  obtain ⟨x0, rfl, b0, d0⟩ := rG_ref (by decide) g0
  obtain ⟨x1, rfl, b1, d1⟩ := aG_int g1
  dsimp only at b1 d1
  obtain ⟨m1, m2, m3, m4⟩ := hM0
  obtain ⟨M, hM⟩ := rMe_ex hH b0 d0
  obtain ⟨a0, c0, fs0, w0, e1, s0, t0, e4⟩ := m1 (0, 5, 1) (List.mem_of_getElem? (i := 0) rfl)
  obtain rfl : x0 = a0 := Sum.inl.inj (Option.some.inj (Sum.inr.inj (Sum.inr.inj (Option.some.inj (show some (rR x0) = some _ from e1)))))
  obtain rfl : rI x1 = w0 := Option.some.inj (show some (rI x1) = some w0 from e4)
  clear e1 e4
  have f0 : rB K n p 22 [rR x0] σ := by
    obtain ⟨w, e6, e7⟩ := m4 (353, [0]) (List.mem_of_getElem? (i := 0) rfl)
    obtain rfl : [rR x0] = w := Option.some.inj (show some [rR x0] = some w from e6)
    exact (rF_b (r := 353) (by decide) rfl).mp e7
  obtain ⟨hp, hR⟩ := ro_22.mp f0
  obtain rfl := rMg_u hM hR.1
  have uP : p.1.2.2.2 = x1.toInt := rRX_f hR.2.2.2 s0 t0
  have f1 : rB K n p 24 [] σ := by
    obtain ⟨w, e6, e7⟩ := m4 (384, []) (List.mem_of_getElem? (i := 1) rfl)
    obtain rfl : [] = w := Option.some.inj (show some [] = some w from e6)
    exact (rF_b (r := 384) (by decide) rfl).mp e7
  have f1 := ro_24.mp f1
  clear m1 m2 m3 m4
  have q0 : rB K n (rSh rS1 p [rI x1, rI x1]) 24 [] σ := ro_24.mpr (by
    rw [rSh_pa hp, ← uP]
    exact f1)
  exact ⟨p, fun _ => rfl, ⟨(fun q h => by cases h), fun q h => (by cases h), (fun f h => by cases h), (aAllc ⟨_, rfl, (rF_g (r := 384) (by decide)).mpr q0⟩ (fun f h => by cases h))⟩, [], List.mem_cons_self, fun f h => (by cases h)⟩
theorem rw_rvAP {K : Nat → Nat} {n : Nat} {JX : (Nat → jcell) → Prop} : aGho (rF K n) fa_T K n JX ag_rvAP := by
  refine aGho_of ⟨rfl, rfl⟩ ?_
  intro p σ ρ hH hX hA hM0
  have hG := aAG_of hA.1 (fun i e v he hv => (hA.2 i e v he hv).1)
  clear hA
  obtain ⟨v0, v1, v2, rfl, g0, g1, g2⟩ := rA_3 hG
  clear hG
  obtain ⟨x0, rfl, b0, d0⟩ := rG_ref (by decide) g0
  obtain ⟨x1, rfl, b1, d1⟩ := aG_int g1
  dsimp only at b1 d1
  obtain ⟨x2, rfl, b2, d2⟩ := aG_int g2
  dsimp only at b2 d2
  obtain ⟨m1, m2, m3, m4⟩ := hM0
  obtain ⟨M, hM⟩ := rMe_ex hH b0 d0
  have f0 : rB K n p 22 [rR x0] σ := by
    obtain ⟨w, e6, e7⟩ := m4 (353, [0]) (List.mem_of_getElem? (i := 0) rfl)
    obtain rfl : [rR x0] = w := Option.some.inj (show some [rR x0] = some w from e6)
    exact (rF_b (r := 353) (by decide) rfl).mp e7
  obtain ⟨hp, hR⟩ := ro_22.mp f0
  obtain rfl := rMg_u hM hR.1
  have f1 : rB K n p 174 [rR x0, rI x1, rI x2] σ := by
    obtain ⟨w, e6, e7⟩ := m4 (2787, [0, 1, 2]) (List.mem_of_getElem? (i := 1) rfl)
    obtain rfl : [rR x0, rI x1, rI x2] = w := Option.some.inj (show some [rR x0, rI x1, rI x2] = some w from e6)
    exact (rF_b (r := 2787) (by decide) rfl).mp e7
  have f1 := ro_174.mp f1
  clear m1 m2 m3 m4
  have q0 : rB K n p 90 [rR x0, rI x1] σ := ro_90.mpr (by
    obtain ⟨gM, gS, M9, v, h1, h2, h3, h4, h5, h6, h7⟩ := f1 (by omega)
    obtain rfl := rMg_u hM h3
    obtain ⟨v', o, e⟩ := hR.2.1
    have e2 := rOb_u h4 o
    cases e2
    exact ⟨hp, gM, gS, h1, h2, h5, by rw [h6, e], fun j j0 j1 => h7 j j0 (by omega) j1⟩)
  exact ⟨p, fun _ => rfl, ⟨(fun q h => by cases h), fun q h => (by cases h), (fun f h => by cases h), (aAllc ⟨_, rfl, (rF_b (r := 1442) (by decide) rfl).mpr q0⟩ (fun f h => by cases h))⟩, [], List.mem_cons_self, fun f h => (by cases h)⟩
theorem rw_rvGQ {K : Nat → Nat} {n : Nat} {JX : (Nat → jcell) → Prop} : aGho (rF K n) fa_T K n JX ag_rvGQ := by
  refine aGho_of ⟨rfl, rfl⟩ ?_
  intro p σ ρ hH hX hA hM0
  have hG := aAG_of hA.1 (fun i e v he hv => (hA.2 i e v he hv).1)
  clear hA
  obtain ⟨v0, v1, v2, v3, v4, rfl, g0, g1, g2, g3, g4⟩ := rA_5 hG
  clear hG
  obtain ⟨x0, rfl, b0, d0⟩ := rG_ref (by decide) g0
  obtain ⟨x1, rfl, b1, d1⟩ := aG_int g1
  dsimp only at b1 d1
  obtain ⟨x2, rfl, b2, d2⟩ := aG_int g2
  dsimp only at b2 d2
  obtain ⟨x3, rfl, b3, d3⟩ := aG_int g3
  dsimp only at b3 d3
  obtain ⟨x4, rfl, b4, d4⟩ := rG_ref (by decide) g4
  obtain ⟨m1, m2, m3, m4⟩ := hM0
  obtain ⟨M, hM⟩ := rMe_ex hH b0 d0
  obtain ⟨a0, c0, fs0, w0, e1, s0, t0, e4⟩ := m1 (0, 12, 4) (List.mem_of_getElem? (i := 0) rfl)
  obtain rfl : x0 = a0 := Sum.inl.inj (Option.some.inj (Sum.inr.inj (Sum.inr.inj (Option.some.inj (show some (rR x0) = some _ from e1)))))
  obtain rfl : rR x4 = w0 := Option.some.inj (show some (rR x4) = some w0 from e4)
  clear e1 e4
  obtain ⟨a, mc0, ty0, gc0, ic0, e1, sc0, jc0, e4, e5⟩ := m2 (4, ([(1, 1)], 0), 3) (List.mem_of_getElem? (i := 0) rfl)
  obtain rfl : x4 = a := Sum.inl.inj (Option.some.inj (Sum.inr.inj (Sum.inr.inj (Option.some.inj (show some (rR x4) = some _ from e1)))))
  obtain ⟨gc0, rfl⟩ : ∃ g, gc0 = .inl g := by
    rcases gc0 with g | g
    · exact ⟨g, rfl⟩
    · exact absurd (show some (rI x3) = some (.inr (.inl (g ic0))) from e5) (fun h => by cases h)
  have sc0 : σ x4 = .inl (ty0, mc0, .inl gc0) := sc0
  have ec0 : x3 = gc0 ic0 := Sum.inl.inj (Option.some.inj (show some (rI x3) = some _ from e5))
  have kc0 : (ic0 : Int) = (1 * x1.toInt + 0) + 0 := by
    obtain ⟨z, e6, e7⟩ := e4
    obtain rfl : (1 * x1.toInt + 0) = z := Option.some.inj (show some (1 * x1.toInt + 0) = some z from e6)
    exact e7
  clear e1 e4 e5
  have l0 : 0 ≤ (1 * x2.toInt + (-1 * x1.toInt + 0)) + -1 := by
    obtain ⟨z, e6, e7⟩ := m3 ([(2, 1), (1, -1)], -1) (List.mem_of_getElem? (i := 0) rfl)
    obtain rfl : (1 * x2.toInt + (-1 * x1.toInt + 0)) = z := Option.some.inj (show some (1 * x2.toInt + (-1 * x1.toInt + 0)) = some z from e6)
    exact e7
  have f0 : rB K n p 170 [rR x0, rI x2] σ := by
    obtain ⟨w, e6, e7⟩ := m4 (2722, [0, 2]) (List.mem_of_getElem? (i := 0) rfl)
    obtain rfl : [rR x0, rI x2] = w := Option.some.inj (show some [rR x0, rI x2] = some w from e6)
    exact (rF_b (r := 2722) (by decide) rfl).mp e7
  have f0 := ro_170.mp f0
  have f1 : rB K n p 90 [rR x0, rI x1] σ := by
    obtain ⟨w, e6, e7⟩ := m4 (1442, [0, 1]) (List.mem_of_getElem? (i := 1) rfl)
    obtain rfl : [rR x0, rI x1] = w := Option.some.inj (show some [rR x0, rI x1] = some w from e6)
    exact (rF_b (r := 1442) (by decide) rfl).mp e7
  have f1 := ro_90.mp f1
  have f2 : rB K n p 24 [] σ := by
    obtain ⟨w, e6, e7⟩ := m4 (384, []) (List.mem_of_getElem? (i := 2) rfl)
    obtain rfl : [] = w := Option.some.inj (show some [] = some w from e6)
    exact (rF_b (r := 384) (by decide) rfl).mp e7
  have f2 := ro_24.mp f2
  clear m1 m2 m3 m4
  have q0 : rB K n (rSh rS1 p [rI x3, rI x3]) 24 [] σ := ro_24.mpr (by
    obtain ⟨hp, gM, gS, h1, h2, h3, h4, h5⟩ := f1
    obtain ⟨gM', gS', gP, k1, k2, k3, k⟩ := f0
    obtain rfl := rRo_u h1 k1
    obtain rfl := rRo_u h2 k2
    have e3 := rRo_c (i := ic0) k3 s0 t0 sc0 ec0
    rw [show ic0 = x1.toInt.toNat by omega] at e3
    rw [rSh_pa hp]
    obtain ⟨d0', d1', hv, hk, -, ha⟩ := f2
    refine ⟨d0', d1', hv, hk, rPs_m (q := rPaq gM gS gP x1.toInt) (fun j j0 j1 => ?_) h4 e3 (k _ b1 (by omega)), ha⟩
    show (if 0 ≤ j ∧ j ≤ 63 then (gM (64 * x1.toInt + j).toNat).toInt else 0) = p.1.1 j
    rw [if_pos ⟨j0, j1⟩]
    exact h5 j j0 j1)
  exact ⟨p, fun _ => rfl, ⟨(fun q h => by cases h), fun q h => (by cases h), (fun f h => by cases h), (aAllc ⟨_, rfl, (rF_g (r := 384) (by decide)).mpr q0⟩ (fun f h => by cases h))⟩, [], List.mem_cons_self, fun f h => (by cases h)⟩
theorem rw_rvHKs {K : Nat → Nat} {n : Nat} {JX : (Nat → jcell) → Prop} : aGho (rF K n) fa_T K n JX ag_rvHKs := by
  refine aGho_of ⟨rfl, rfl⟩ ?_
  intro p σ ρ hH hX hA hM0
  have hG := aAG_of hA.1 (fun i e v he hv => (hA.2 i e v he hv).1)
  clear hA
  obtain ⟨v0, rfl, g0⟩ := rA_1 hG
  clear hG
  obtain ⟨x0, rfl, b0, d0⟩ := rG_ref (by decide) g0
  obtain ⟨m1, m2, m3, m4⟩ := hM0
  obtain ⟨M, hM⟩ := rMe_ex hH b0 d0
  have f0 : rB K n p 22 [rR x0] σ := by
    obtain ⟨w, e6, e7⟩ := m4 (353, [0]) (List.mem_of_getElem? (i := 0) rfl)
    obtain rfl : [rR x0] = w := Option.some.inj (show some [rR x0] = some w from e6)
    exact (rF_b (r := 353) (by decide) rfl).mp e7
  obtain ⟨hp, hR⟩ := ro_22.mp f0
  obtain rfl := rMg_u hM hR.1
  have f1 : rB K n p 24 [] σ := by
    obtain ⟨w, e6, e7⟩ := m4 (384, []) (List.mem_of_getElem? (i := 1) rfl)
    obtain rfl : [] = w := Option.some.inj (show some [] = some w from e6)
    exact (rF_b (r := 384) (by decide) rfl).mp e7
  have f1 := ro_24.mp f1
  clear m1 m2 m3 m4
  have q0 : rB K n p 139 [rR x0] σ := ro_139.mpr ⟨_, hM, by
    exact f1.2.2.2.1⟩
  exact ⟨p, fun _ => rfl, ⟨(fun q h => by cases h), fun q h => (by cases h), (fun f h => by cases h), (aAllc ⟨_, rfl, (rF_b (r := 2225) (by decide) rfl).mpr q0⟩ (fun f h => by cases h))⟩, [], List.mem_cons_self, fun f h => (by cases h)⟩
theorem rw_rvLd {K : Nat → Nat} {n : Nat} {JX : (Nat → jcell) → Prop} : aGho (rF K n) fa_T K n JX ag_rvLd := by
  refine aGho_of ⟨rfl, rfl⟩ ?_
  intro p σ ρ hH hX hA hM0
  have hG := aAG_of hA.1 (fun i e v he hv => (hA.2 i e v he hv).1)
  clear hA
  obtain ⟨v0, v1, v2, v3, v4, v5, rfl, g0, g1, g2, g3, g4, g5⟩ := rA_6 hG
  clear hG
  obtain ⟨x0, rfl, b0, d0⟩ := rG_ref (by decide) g0
  obtain ⟨x1, rfl, b1, d1⟩ := rG_ref (by decide) g1
  obtain ⟨x2, rfl, b2, d2⟩ := aG_int g2
  dsimp only at b2 d2
  obtain ⟨x3, rfl, b3, d3⟩ := aG_int g3
  dsimp only at b3 d3
  obtain ⟨x4, rfl, b4, d4⟩ := aG_int g4
  dsimp only at b4 d4
  obtain ⟨x5, rfl, b5, d5⟩ := aG_int g5
  dsimp only at b5 d5
  obtain ⟨m1, m2, m3, m4⟩ := hM0
  obtain ⟨M, hM⟩ := rMe_ex hH b0 d0
  obtain ⟨a0, c0, fs0, w0, e1, s0, t0, e4⟩ := m1 (0, 21, 1) (List.mem_of_getElem? (i := 0) rfl)
  obtain rfl : x0 = a0 := Sum.inl.inj (Option.some.inj (Sum.inr.inj (Sum.inr.inj (Option.some.inj (show some (rR x0) = some _ from e1)))))
  obtain rfl : rR x1 = w0 := Option.some.inj (show some (rR x1) = some w0 from e4)
  clear e1 e4
  obtain ⟨a, mc0, ty0, gc0, ic0, e1, sc0, jc0, e4, e5⟩ := m2 (1, ([(2, 2048), (4, 1)], 0), 5) (List.mem_of_getElem? (i := 0) rfl)
  obtain rfl : x1 = a := Sum.inl.inj (Option.some.inj (Sum.inr.inj (Sum.inr.inj (Option.some.inj (show some (rR x1) = some _ from e1)))))
  obtain ⟨gc0, rfl⟩ : ∃ g, gc0 = .inl g := by
    rcases gc0 with g | g
    · exact ⟨g, rfl⟩
    · exact absurd (show some (rI x5) = some (.inr (.inl (g ic0))) from e5) (fun h => by cases h)
  have sc0 : σ x1 = .inl (ty0, mc0, .inl gc0) := sc0
  have ec0 : x5 = gc0 ic0 := Sum.inl.inj (Option.some.inj (show some (rI x5) = some _ from e5))
  have kc0 : (ic0 : Int) = (2048 * x2.toInt + (1 * x4.toInt + 0)) + 0 := by
    obtain ⟨z, e6, e7⟩ := e4
    obtain rfl : (2048 * x2.toInt + (1 * x4.toInt + 0)) = z := Option.some.inj (show some (2048 * x2.toInt + (1 * x4.toInt + 0)) = some z from e6)
    exact e7
  clear e1 e4 e5
  have l0 : 0 ≤ (1 * x3.toInt + (-1 * x4.toInt + 0)) + -1 := by
    obtain ⟨z, e6, e7⟩ := m3 ([(3, 1), (4, -1)], -1) (List.mem_of_getElem? (i := 0) rfl)
    obtain rfl : (1 * x3.toInt + (-1 * x4.toInt + 0)) = z := Option.some.inj (show some (1 * x3.toInt + (-1 * x4.toInt + 0)) = some z from e6)
    exact e7
  have f0 : rB K n p 76 [rR x0, rI x2, rI x3] σ := by
    obtain ⟨w, e6, e7⟩ := m4 (1219, [0, 2, 3]) (List.mem_of_getElem? (i := 0) rfl)
    obtain rfl : [rR x0, rI x2, rI x3] = w := Option.some.inj (show some [rR x0, rI x2, rI x3] = some w from e6)
    exact (rF_b (r := 1219) (by decide) rfl).mp e7
  have f0 := ro_76.mp f0
  clear m1 m2 m3 m4
  have q0 : rB K n p 25 [rI x5] σ := ro_25.mpr (by
    obtain ⟨hp, h1, g, h3, h4⟩ := f0
    have e1 := rRo_c (i := ic0) h3 s0 t0 sc0 ec0
    have h5 := h4 (by omega) x4.toInt b4 (by omega)
    rw [show (2048 * x2.toInt + x4.toInt).toNat = ic0 by omega, e1] at h5
    exact h5.1)
  have q1 : rB K n (rSh rS1 p [rR x0, rI x5]) 24 [] σ := ro_24.mpr (by
    obtain ⟨hp, h1, g, h3, h4⟩ := f0
    have e1 := rRo_c (i := ic0) h3 s0 t0 sc0 ec0
    have h5 := h4 (by omega) x4.toInt b4 (by omega)
    rw [show (2048 * x2.toInt + x4.toInt).toNat = ic0 by omega, e1] at h5
    rw [rSh_mk hp]
    exact h5.2)
  exact ⟨p, fun _ => rfl, ⟨(fun q h => by cases h), fun q h => (by cases h), (fun f h => by cases h), (aAllc ⟨_, rfl, (rF_b (r := 401) (by decide) rfl).mpr q0⟩ (aAllc ⟨_, rfl, (rF_g (r := 384) (by decide)).mpr q1⟩ (fun f h => by cases h)))⟩, [], List.mem_cons_self, fun f h => (by cases h)⟩
theorem rw_rvCLm {K : Nat → Nat} {n : Nat} {JX : (Nat → jcell) → Prop} : aGho (rF K n) fa_T K n JX ag_rvCLm := by
  refine aGho_of ⟨rfl, rfl⟩ ?_
  intro p σ ρ hH hX hA hM0
  have hG := aAG_of hA.1 (fun i e v he hv => (hA.2 i e v he hv).1)
  clear hA
  obtain ⟨v0, v1, v2, rfl, g0, g1, g2⟩ := rA_3 hG
  clear hG
  obtain ⟨x0, rfl, b0, d0⟩ := rG_ref (by decide) g0
  obtain ⟨x1, rfl, b1, d1⟩ := aG_int g1
  dsimp only at b1 d1
  obtain ⟨x2, rfl, b2, d2⟩ := aG_int g2
  dsimp only at b2 d2
  obtain ⟨m1, m2, m3, m4⟩ := hM0
  obtain ⟨M, hM⟩ := rMe_ex hH b0 d0
  have f0 : rB K n p 76 [rR x0, rI x1, rI x2] σ := by
    obtain ⟨w, e6, e7⟩ := m4 (1219, [0, 1, 2]) (List.mem_of_getElem? (i := 0) rfl)
    obtain rfl : [rR x0, rI x1, rI x2] = w := Option.some.inj (show some [rR x0, rI x1, rI x2] = some w from e6)
    exact (rF_b (r := 1219) (by decide) rfl).mp e7
  have f0 := ro_76.mp f0
  have f1 : rB K n p 168 [rR x0, rI x1, rI x2] σ := by
    obtain ⟨w, e6, e7⟩ := m4 (2691, [0, 1, 2]) (List.mem_of_getElem? (i := 1) rfl)
    obtain rfl : [rR x0, rI x1, rI x2] = w := Option.some.inj (show some [rR x0, rI x1, rI x2] = some w from e6)
    exact (rF_b (r := 2691) (by decide) rfl).mp e7
  have f1 := ro_168.mp f1
  clear m1 m2 m3 m4
  have q0 : rB K n p 91 [rR x0, rI x1] σ := ro_91.mpr (by
    exact ⟨f0.1, x2.toInt, f0.2.1, f1, f0.2.2⟩)
  exact ⟨p, fun _ => rfl, ⟨(fun q h => by cases h), fun q h => (by cases h), (fun f h => by cases h), (aAllc ⟨_, rfl, (rF_b (r := 1458) (by decide) rfl).mpr q0⟩ (fun f h => by cases h))⟩, [], List.mem_cons_self, fun f h => (by cases h)⟩
theorem rw_rvCLc {K : Nat → Nat} {n : Nat} {JX : (Nat → jcell) → Prop} : aGho (rF K n) fa_T K n JX ag_rvCLc := by
  refine aGho_of ⟨rfl, rfl⟩ ?_
  intro p σ ρ hH hX hA hM0
  have hG := aAG_of hA.1 (fun i e v he hv => (hA.2 i e v he hv).1)
  clear hA
  obtain ⟨v0, v1, v2, rfl, g0, g1, g2⟩ := rA_3 hG
  clear hG
  obtain ⟨x0, rfl, b0, d0⟩ := rG_ref (by decide) g0
  obtain ⟨x1, rfl, b1, d1⟩ := aG_int g1
  dsimp only at b1 d1
  obtain ⟨x2, rfl, b2, d2⟩ := aG_int g2
  dsimp only at b2 d2
  obtain ⟨m1, m2, m3, m4⟩ := hM0
  obtain ⟨M, hM⟩ := rMe_ex hH b0 d0
  have l0 : 0 ≤ (1 * x1.toInt + (-1 * x2.toInt + 0)) + 0 := by
    obtain ⟨z, e6, e7⟩ := m3 ([(1, 1), (2, -1)], 0) (List.mem_of_getElem? (i := 0) rfl)
    obtain rfl : (1 * x1.toInt + (-1 * x2.toInt + 0)) = z := Option.some.inj (show some (1 * x1.toInt + (-1 * x2.toInt + 0)) = some z from e6)
    exact e7
  have l1 : 0 ≤ (-1 * x1.toInt + (1 * x2.toInt + 0)) + 0 := by
    obtain ⟨z, e6, e7⟩ := m3 ([(1, -1), (2, 1)], 0) (List.mem_of_getElem? (i := 1) rfl)
    obtain rfl : (-1 * x1.toInt + (1 * x2.toInt + 0)) = z := Option.some.inj (show some (-1 * x1.toInt + (1 * x2.toInt + 0)) = some z from e6)
    exact e7
  have f0 : rB K n p 91 [rR x0, rI x1] σ := by
    obtain ⟨w, e6, e7⟩ := m4 (1458, [0, 1]) (List.mem_of_getElem? (i := 0) rfl)
    obtain rfl : [rR x0, rI x1] = w := Option.some.inj (show some [rR x0, rI x1] = some w from e6)
    exact (rF_b (r := 1458) (by decide) rfl).mp e7
  have f0 := ro_91.mp f0
  clear m1 m2 m3 m4
  have q0 : rB K n p 91 [rR x0, rI x2] σ := ro_91.mpr (by
    rw [show x2.toInt = x1.toInt by omega]
    exact f0)
  exact ⟨p, fun _ => rfl, ⟨(fun q h => by cases h), fun q h => (by cases h), (fun f h => by cases h), (aAllc ⟨_, rfl, (rF_b (r := 1458) (by decide) rfl).mpr q0⟩ (fun f h => by cases h))⟩, [], List.mem_cons_self, fun f h => (by cases h)⟩
theorem rw_rvCV {K : Nat → Nat} {n : Nat} {JX : (Nat → jcell) → Prop} : aGho (rF K n) fa_T K n JX ag_rvCV := by
  refine aGho_of ⟨rfl, rfl⟩ ?_
  intro p σ ρ hH hX hA hM0
  have hG := aAG_of hA.1 (fun i e v he hv => (hA.2 i e v he hv).1)
  clear hA
  obtain ⟨v0, v1, v2, v3, rfl, g0, g1, g2, g3⟩ := rA_4 hG
  clear hG
  obtain ⟨x0, rfl, b0, d0⟩ := rG_ref (by decide) g0
  obtain ⟨x1, rfl, b1, d1⟩ := rG_ref (by decide) g1
  obtain ⟨x2, rfl, b2, d2⟩ := aG_int g2
  dsimp only at b2 d2
  obtain ⟨x3, rfl, b3, d3⟩ := aG_int g3
  dsimp only at b3 d3
  obtain ⟨m1, m2, m3, m4⟩ := hM0
  obtain ⟨M, hM⟩ := rMe_ex hH b0 d0
  obtain ⟨a0, c0, fs0, w0, e1, s0, t0, e4⟩ := m1 (0, 22, 1) (List.mem_of_getElem? (i := 0) rfl)
  obtain rfl : x0 = a0 := Sum.inl.inj (Option.some.inj (Sum.inr.inj (Sum.inr.inj (Option.some.inj (show some (rR x0) = some _ from e1)))))
  obtain rfl : rR x1 = w0 := Option.some.inj (show some (rR x1) = some w0 from e4)
  clear e1 e4
  obtain ⟨a, mc0, ty0, gc0, ic0, e1, sc0, jc0, e4, e5⟩ := m2 (1, ([(2, 1)], 0), 3) (List.mem_of_getElem? (i := 0) rfl)
  obtain rfl : x1 = a := Sum.inl.inj (Option.some.inj (Sum.inr.inj (Sum.inr.inj (Option.some.inj (show some (rR x1) = some _ from e1)))))
  obtain ⟨gc0, rfl⟩ : ∃ g, gc0 = .inl g := by
    rcases gc0 with g | g
    · exact ⟨g, rfl⟩
    · exact absurd (show some (rI x3) = some (.inr (.inl (g ic0))) from e5) (fun h => by cases h)
  have sc0 : σ x1 = .inl (ty0, mc0, .inl gc0) := sc0
  have ec0 : x3 = gc0 ic0 := Sum.inl.inj (Option.some.inj (show some (rI x3) = some _ from e5))
  have kc0 : (ic0 : Int) = (1 * x2.toInt + 0) + 0 := by
    obtain ⟨z, e6, e7⟩ := e4
    obtain rfl : (1 * x2.toInt + 0) = z := Option.some.inj (show some (1 * x2.toInt + 0) = some z from e6)
    exact e7
  clear e1 e4 e5
  have f0 : rB K n p 91 [rR x0, rI x2] σ := by
    obtain ⟨w, e6, e7⟩ := m4 (1458, [0, 2]) (List.mem_of_getElem? (i := 0) rfl)
    obtain rfl : [rR x0, rI x2] = w := Option.some.inj (show some [rR x0, rI x2] = some w from e6)
    exact (rF_b (r := 1458) (by decide) rfl).mp e7
  have f0 := ro_91.mp f0
  clear m1 m2 m3 m4
  have q0 : rB K n p 92 [rR x0, rI x2, rI x3] σ := ro_92.mpr (by
    obtain ⟨hp, c, h1, h2, h3⟩ := f0
    obtain ⟨h4, g, h5, e⟩ := h2
    have e1 := rRo_c (i := ic0) h5 s0 t0 sc0 ec0
    rw [show ic0 = x2.toInt.toNat by omega, e] at e1
    subst e1
    exact ⟨hp, h1, ⟨h4, g, h5, e⟩, h3⟩)
  exact ⟨p, fun _ => rfl, ⟨(fun q h => by cases h), fun q h => (by cases h), (fun f h => by cases h), (aAllc ⟨_, rfl, (rF_b (r := 1475) (by decide) rfl).mpr q0⟩ (fun f h => by cases h))⟩, [], List.mem_cons_self, fun f h => (by cases h)⟩
theorem rw_rvLdv {K : Nat → Nat} {n : Nat} {JX : (Nat → jcell) → Prop} : aGho (rF K n) fa_T K n JX ag_rvLdv := by
  refine aGho_of ⟨rfl, rfl⟩ ?_
  intro p σ ρ hH hX hA hM0
  have hG := aAG_of hA.1 (fun i e v he hv => (hA.2 i e v he hv).1)
  clear hA
  obtain ⟨v0, v1, v2, v3, v4, v5, rfl, g0, g1, g2, g3, g4, g5⟩ := rA_6 hG
  clear hG
  obtain ⟨x0, rfl, b0, d0⟩ := rG_ref (by decide) g0
  obtain ⟨x1, rfl, b1, d1⟩ := rG_ref (by decide) g1
  obtain ⟨x2, rfl, b2, d2⟩ := aG_int g2
  dsimp only at b2 d2
  obtain ⟨x3, rfl, b3, d3⟩ := aG_int g3
  dsimp only at b3 d3
  obtain ⟨x4, rfl, b4, d4⟩ := aG_int g4
  dsimp only at b4 d4
  obtain ⟨x5, rfl, b5, d5⟩ := aG_int g5
  dsimp only at b5 d5
  obtain ⟨m1, m2, m3, m4⟩ := hM0
  obtain ⟨M, hM⟩ := rMe_ex hH b0 d0
  obtain ⟨a0, c0, fs0, w0, e1, s0, t0, e4⟩ := m1 (0, 21, 1) (List.mem_of_getElem? (i := 0) rfl)
  obtain rfl : x0 = a0 := Sum.inl.inj (Option.some.inj (Sum.inr.inj (Sum.inr.inj (Option.some.inj (show some (rR x0) = some _ from e1)))))
  obtain rfl : rR x1 = w0 := Option.some.inj (show some (rR x1) = some w0 from e4)
  clear e1 e4
  obtain ⟨a, mc0, ty0, gc0, ic0, e1, sc0, jc0, e4, e5⟩ := m2 (1, ([(2, 2048), (4, 1)], 0), 5) (List.mem_of_getElem? (i := 0) rfl)
  obtain rfl : x1 = a := Sum.inl.inj (Option.some.inj (Sum.inr.inj (Sum.inr.inj (Option.some.inj (show some (rR x1) = some _ from e1)))))
  obtain ⟨gc0, rfl⟩ : ∃ g, gc0 = .inl g := by
    rcases gc0 with g | g
    · exact ⟨g, rfl⟩
    · exact absurd (show some (rI x5) = some (.inr (.inl (g ic0))) from e5) (fun h => by cases h)
  have sc0 : σ x1 = .inl (ty0, mc0, .inl gc0) := sc0
  have ec0 : x5 = gc0 ic0 := Sum.inl.inj (Option.some.inj (show some (rI x5) = some _ from e5))
  have kc0 : (ic0 : Int) = (2048 * x2.toInt + (1 * x4.toInt + 0)) + 0 := by
    obtain ⟨z, e6, e7⟩ := e4
    obtain rfl : (2048 * x2.toInt + (1 * x4.toInt + 0)) = z := Option.some.inj (show some (2048 * x2.toInt + (1 * x4.toInt + 0)) = some z from e6)
    exact e7
  clear e1 e4 e5
  have l0 : 0 ≤ (1 * x3.toInt + (-1 * x4.toInt + 0)) + -1 := by
    obtain ⟨z, e6, e7⟩ := m3 ([(3, 1), (4, -1)], -1) (List.mem_of_getElem? (i := 0) rfl)
    obtain rfl : (1 * x3.toInt + (-1 * x4.toInt + 0)) = z := Option.some.inj (show some (1 * x3.toInt + (-1 * x4.toInt + 0)) = some z from e6)
    exact e7
  have f0 : rB K n p 92 [rR x0, rI x2, rI x3] σ := by
    obtain ⟨w, e6, e7⟩ := m4 (1475, [0, 2, 3]) (List.mem_of_getElem? (i := 0) rfl)
    obtain rfl : [rR x0, rI x2, rI x3] = w := Option.some.inj (show some [rR x0, rI x2, rI x3] = some w from e6)
    exact (rF_b (r := 1475) (by decide) rfl).mp e7
  have f0 := ro_92.mp f0
  clear m1 m2 m3 m4
  have q0 : rB K n p 25 [rI x5] σ := ro_25.mpr (by
    obtain ⟨hp, h1, h2, g, h3, h4⟩ := f0
    have e1 := rRo_c (i := ic0) h3 s0 t0 sc0 ec0
    have h5 := h4 (by omega) x4.toInt b4 (by omega)
    rw [show (2048 * x2.toInt + x4.toInt).toNat = ic0 by omega, e1] at h5
    exact h5.1)
  have q1 : rB K n (rSh rS1 p [rR x0, rI x5]) 24 [] σ := ro_24.mpr (by
    obtain ⟨hp, h1, h2, g, h3, h4⟩ := f0
    have e1 := rRo_c (i := ic0) h3 s0 t0 sc0 ec0
    have h5 := h4 (by omega) x4.toInt b4 (by omega)
    rw [show (2048 * x2.toInt + x4.toInt).toNat = ic0 by omega, e1] at h5
    rw [rSh_mk hp]
    exact h5.2)
  exact ⟨p, fun _ => rfl, ⟨(fun q h => by cases h), fun q h => (by cases h), (fun f h => by cases h), (aAllc ⟨_, rfl, (rF_b (r := 401) (by decide) rfl).mpr q0⟩ (aAllc ⟨_, rfl, (rF_g (r := 384) (by decide)).mpr q1⟩ (fun f h => by cases h)))⟩, [], List.mem_cons_self, fun f h => (by cases h)⟩
theorem rw_rvLdv0 {K : Nat → Nat} {n : Nat} {JX : (Nat → jcell) → Prop} : aGho (rF K n) fa_T K n JX ag_rvLdv0 := by
  refine aGho_of ⟨rfl, rfl⟩ ?_
  intro p σ ρ hH hX hA hM0
  have hG := aAG_of hA.1 (fun i e v he hv => (hA.2 i e v he hv).1)
  clear hA
  obtain ⟨v0, v1, v2, v3, v4, v5, rfl, g0, g1, g2, g3, g4, g5⟩ := rA_6 hG
  clear hG
  obtain ⟨x0, rfl, b0, d0⟩ := rG_ref (by decide) g0
  obtain ⟨x1, rfl, b1, d1⟩ := rG_ref (by decide) g1
  obtain ⟨x2, rfl, b2, d2⟩ := aG_int g2
  dsimp only at b2 d2
  obtain ⟨x3, rfl, b3, d3⟩ := aG_int g3
  dsimp only at b3 d3
  obtain ⟨x4, rfl, b4, d4⟩ := aG_int g4
  dsimp only at b4 d4
  obtain ⟨x5, rfl, b5, d5⟩ := aG_int g5
  dsimp only at b5 d5
  obtain ⟨m1, m2, m3, m4⟩ := hM0
  obtain ⟨M, hM⟩ := rMe_ex hH b0 d0
  obtain ⟨a0, c0, fs0, w0, e1, s0, t0, e4⟩ := m1 (0, 21, 1) (List.mem_of_getElem? (i := 0) rfl)
  obtain rfl : x0 = a0 := Sum.inl.inj (Option.some.inj (Sum.inr.inj (Sum.inr.inj (Option.some.inj (show some (rR x0) = some _ from e1)))))
  obtain rfl : rR x1 = w0 := Option.some.inj (show some (rR x1) = some w0 from e4)
  clear e1 e4
  obtain ⟨a, mc0, ty0, gc0, ic0, e1, sc0, jc0, e4, e5⟩ := m2 (1, ([(4, 1)], 0), 5) (List.mem_of_getElem? (i := 0) rfl)
  obtain rfl : x1 = a := Sum.inl.inj (Option.some.inj (Sum.inr.inj (Sum.inr.inj (Option.some.inj (show some (rR x1) = some _ from e1)))))
  obtain ⟨gc0, rfl⟩ : ∃ g, gc0 = .inl g := by
    rcases gc0 with g | g
    · exact ⟨g, rfl⟩
    · exact absurd (show some (rI x5) = some (.inr (.inl (g ic0))) from e5) (fun h => by cases h)
  have sc0 : σ x1 = .inl (ty0, mc0, .inl gc0) := sc0
  have ec0 : x5 = gc0 ic0 := Sum.inl.inj (Option.some.inj (show some (rI x5) = some _ from e5))
  have kc0 : (ic0 : Int) = (1 * x4.toInt + 0) + 0 := by
    obtain ⟨z, e6, e7⟩ := e4
    obtain rfl : (1 * x4.toInt + 0) = z := Option.some.inj (show some (1 * x4.toInt + 0) = some z from e6)
    exact e7
  clear e1 e4 e5
  have l0 : 0 ≤ (1 * x3.toInt + (-1 * x4.toInt + 0)) + -1 := by
    obtain ⟨z, e6, e7⟩ := m3 ([(3, 1), (4, -1)], -1) (List.mem_of_getElem? (i := 0) rfl)
    obtain rfl : (1 * x3.toInt + (-1 * x4.toInt + 0)) = z := Option.some.inj (show some (1 * x3.toInt + (-1 * x4.toInt + 0)) = some z from e6)
    exact e7
  have f0 : rB K n p 92 [rR x0, rI x2, rI x3] σ := by
    obtain ⟨w, e6, e7⟩ := m4 (1475, [0, 2, 3]) (List.mem_of_getElem? (i := 0) rfl)
    obtain rfl : [rR x0, rI x2, rI x3] = w := Option.some.inj (show some [rR x0, rI x2, rI x3] = some w from e6)
    exact (rF_b (r := 1475) (by decide) rfl).mp e7
  have f0 := ro_92.mp f0
  clear m1 m2 m3 m4
  have q0 : rB K n p 25 [rI x5] σ := ro_25.mpr (by
    obtain ⟨hp, h1, h2, g, h3, h4⟩ := f0
    have e1 := rRo_c (i := ic0) h3 s0 t0 sc0 ec0
    have h5 := h4 (by omega) x4.toInt b4 (by omega)
    rw [show (2048 * x2.toInt + x4.toInt).toNat = ic0 by omega, e1] at h5
    exact h5.1)
  have q1 : rB K n (rSh rS1 p [rR x0, rI x5]) 24 [] σ := ro_24.mpr (by
    obtain ⟨hp, h1, h2, g, h3, h4⟩ := f0
    have e1 := rRo_c (i := ic0) h3 s0 t0 sc0 ec0
    have h5 := h4 (by omega) x4.toInt b4 (by omega)
    rw [show (2048 * x2.toInt + x4.toInt).toNat = ic0 by omega, e1] at h5
    rw [rSh_mk hp]
    exact h5.2)
  exact ⟨p, fun _ => rfl, ⟨(fun q h => by cases h), fun q h => (by cases h), (fun f h => by cases h), (aAllc ⟨_, rfl, (rF_b (r := 401) (by decide) rfl).mpr q0⟩ (aAllc ⟨_, rfl, (rF_g (r := 384) (by decide)).mpr q1⟩ (fun f h => by cases h)))⟩, [], List.mem_cons_self, fun f h => (by cases h)⟩
theorem rw_rvLdv1 {K : Nat → Nat} {n : Nat} {JX : (Nat → jcell) → Prop} : aGho (rF K n) fa_T K n JX ag_rvLdv1 := by
  refine aGho_of ⟨rfl, rfl⟩ ?_
  intro p σ ρ hH hX hA hM0
  have hG := aAG_of hA.1 (fun i e v he hv => (hA.2 i e v he hv).1)
  clear hA
  obtain ⟨v0, v1, v2, v3, v4, v5, rfl, g0, g1, g2, g3, g4, g5⟩ := rA_6 hG
  clear hG
  obtain ⟨x0, rfl, b0, d0⟩ := rG_ref (by decide) g0
  obtain ⟨x1, rfl, b1, d1⟩ := rG_ref (by decide) g1
  obtain ⟨x2, rfl, b2, d2⟩ := aG_int g2
  dsimp only at b2 d2
  obtain ⟨x3, rfl, b3, d3⟩ := aG_int g3
  dsimp only at b3 d3
  obtain ⟨x4, rfl, b4, d4⟩ := aG_int g4
  dsimp only at b4 d4
  obtain ⟨x5, rfl, b5, d5⟩ := aG_int g5
  dsimp only at b5 d5
  obtain ⟨m1, m2, m3, m4⟩ := hM0
  obtain ⟨M, hM⟩ := rMe_ex hH b0 d0
  obtain ⟨a0, c0, fs0, w0, e1, s0, t0, e4⟩ := m1 (0, 21, 1) (List.mem_of_getElem? (i := 0) rfl)
  obtain rfl : x0 = a0 := Sum.inl.inj (Option.some.inj (Sum.inr.inj (Sum.inr.inj (Option.some.inj (show some (rR x0) = some _ from e1)))))
  obtain rfl : rR x1 = w0 := Option.some.inj (show some (rR x1) = some w0 from e4)
  clear e1 e4
  obtain ⟨a, mc0, ty0, gc0, ic0, e1, sc0, jc0, e4, e5⟩ := m2 (1, ([(4, 1)], 2048), 5) (List.mem_of_getElem? (i := 0) rfl)
  obtain rfl : x1 = a := Sum.inl.inj (Option.some.inj (Sum.inr.inj (Sum.inr.inj (Option.some.inj (show some (rR x1) = some _ from e1)))))
  obtain ⟨gc0, rfl⟩ : ∃ g, gc0 = .inl g := by
    rcases gc0 with g | g
    · exact ⟨g, rfl⟩
    · exact absurd (show some (rI x5) = some (.inr (.inl (g ic0))) from e5) (fun h => by cases h)
  have sc0 : σ x1 = .inl (ty0, mc0, .inl gc0) := sc0
  have ec0 : x5 = gc0 ic0 := Sum.inl.inj (Option.some.inj (show some (rI x5) = some _ from e5))
  have kc0 : (ic0 : Int) = (1 * x4.toInt + 0) + 2048 := by
    obtain ⟨z, e6, e7⟩ := e4
    obtain rfl : (1 * x4.toInt + 0) = z := Option.some.inj (show some (1 * x4.toInt + 0) = some z from e6)
    exact e7
  clear e1 e4 e5
  have l0 : 0 ≤ (1 * x3.toInt + (-1 * x4.toInt + 0)) + -1 := by
    obtain ⟨z, e6, e7⟩ := m3 ([(3, 1), (4, -1)], -1) (List.mem_of_getElem? (i := 0) rfl)
    obtain rfl : (1 * x3.toInt + (-1 * x4.toInt + 0)) = z := Option.some.inj (show some (1 * x3.toInt + (-1 * x4.toInt + 0)) = some z from e6)
    exact e7
  have f0 : rB K n p 92 [rR x0, rI x2, rI x3] σ := by
    obtain ⟨w, e6, e7⟩ := m4 (1475, [0, 2, 3]) (List.mem_of_getElem? (i := 0) rfl)
    obtain rfl : [rR x0, rI x2, rI x3] = w := Option.some.inj (show some [rR x0, rI x2, rI x3] = some w from e6)
    exact (rF_b (r := 1475) (by decide) rfl).mp e7
  have f0 := ro_92.mp f0
  clear m1 m2 m3 m4
  have q0 : rB K n p 25 [rI x5] σ := ro_25.mpr (by
    obtain ⟨hp, h1, h2, g, h3, h4⟩ := f0
    have e1 := rRo_c (i := ic0) h3 s0 t0 sc0 ec0
    have h5 := h4 (by omega) x4.toInt b4 (by omega)
    rw [show (2048 * x2.toInt + x4.toInt).toNat = ic0 by omega, e1] at h5
    exact h5.1)
  have q1 : rB K n (rSh rS1 p [rR x0, rI x5]) 24 [] σ := ro_24.mpr (by
    obtain ⟨hp, h1, h2, g, h3, h4⟩ := f0
    have e1 := rRo_c (i := ic0) h3 s0 t0 sc0 ec0
    have h5 := h4 (by omega) x4.toInt b4 (by omega)
    rw [show (2048 * x2.toInt + x4.toInt).toNat = ic0 by omega, e1] at h5
    rw [rSh_mk hp]
    exact h5.2)
  exact ⟨p, fun _ => rfl, ⟨(fun q h => by cases h), fun q h => (by cases h), (fun f h => by cases h), (aAllc ⟨_, rfl, (rF_b (r := 401) (by decide) rfl).mpr q0⟩ (aAllc ⟨_, rfl, (rF_g (r := 384) (by decide)).mpr q1⟩ (fun f h => by cases h)))⟩, [], List.mem_cons_self, fun f h => (by cases h)⟩
theorem rw_rvTRI0 {K : Nat → Nat} {n : Nat} {JX : (Nat → jcell) → Prop} : aGho (rF K n) fa_T K n JX ag_rvTRI0 := by
  refine aGho_of ⟨rfl, rfl⟩ ?_
  intro p σ ρ hH hX hA hM0
  have hG := aAG_of hA.1 (fun i e v he hv => (hA.2 i e v he hv).1)
  clear hA
  obtain ⟨v0, rfl, g0⟩ := rA_1 hG
  clear hG
  obtain ⟨x0, rfl, b0, d0⟩ := aG_int g0
  dsimp only at b0 d0
  obtain ⟨m1, m2, m3, m4⟩ := hM0
  clear m1 m2 m3 m4
  have hd : (0 ≤ (1 * x0.toInt + 0) + 0 ∧ 0 ≤ (-1 * x0.toInt + 0) + 0) ∨ (0 ≤ (1 * x0.toInt + 0) + -1) := by
    omega
  rcases hd with ⟨w0, w1⟩ | w0
  · exact ⟨p, fun _ => rfl, ⟨(fun q h => by cases h), fun q h => (by cases h), (fun f h => by cases h), (fun f h => by cases h)⟩, _, List.mem_of_getElem? (i := 0) rfl, (aAllc ⟨_, rfl, w0⟩ (aAllc ⟨_, rfl, w1⟩ (fun f h => by cases h)))⟩
  · exact ⟨p, fun _ => rfl, ⟨(fun q h => by cases h), fun q h => (by cases h), (fun f h => by cases h), (fun f h => by cases h)⟩, _, List.mem_of_getElem? (i := 1) rfl, (aAllc ⟨_, rfl, w0⟩ (fun f h => by cases h))⟩
theorem rw_rvCTr2 {K : Nat → Nat} {n : Nat} {JX : (Nat → jcell) → Prop} : aGho (rF K n) fa_T K n JX ag_rvCTr2 := by
  refine aGho_of ⟨rfl, rfl⟩ ?_
  intro p σ ρ hH hX hA hM0
  have hG := aAG_of hA.1 (fun i e v he hv => (hA.2 i e v he hv).1)
  clear hA
  obtain ⟨v0, v1, v2, v3, rfl, g0, g1, g2, g3⟩ := rA_4 hG
  clear hG
  obtain ⟨x0, rfl, b0, d0⟩ := rG_ref (by decide) g0
  obtain ⟨x1, rfl, b1, d1⟩ := rG_ref (by decide) g1
  obtain ⟨x2, rfl, b2, d2⟩ := aG_int g2
  dsimp only at b2 d2
  obtain ⟨x3, rfl, b3, d3⟩ := aG_int g3
  dsimp only at b3 d3
  obtain ⟨m1, m2, m3, m4⟩ := hM0
  obtain ⟨M, hM⟩ := rMe_ex hH b0 d0
  obtain ⟨a0, c0, fs0, w0, e1, s0, t0, e4⟩ := m1 (0, 22, 1) (List.mem_of_getElem? (i := 0) rfl)
  obtain rfl : x0 = a0 := Sum.inl.inj (Option.some.inj (Sum.inr.inj (Sum.inr.inj (Option.some.inj (show some (rR x0) = some _ from e1)))))
  obtain rfl : rR x1 = w0 := Option.some.inj (show some (rR x1) = some w0 from e4)
  clear e1 e4
  obtain ⟨a, mc0, ty0, gc0, ic0, e1, sc0, jc0, e4, e5⟩ := m2 (1, ([(2, 1)], 0), 3) (List.mem_of_getElem? (i := 0) rfl)
  obtain rfl : x1 = a := Sum.inl.inj (Option.some.inj (Sum.inr.inj (Sum.inr.inj (Option.some.inj (show some (rR x1) = some _ from e1)))))
  obtain ⟨gc0, rfl⟩ : ∃ g, gc0 = .inl g := by
    rcases gc0 with g | g
    · exact ⟨g, rfl⟩
    · exact absurd (show some (rI x3) = some (.inr (.inl (g ic0))) from e5) (fun h => by cases h)
  have sc0 : σ x1 = .inl (ty0, mc0, .inl gc0) := sc0
  have ec0 : x3 = gc0 ic0 := Sum.inl.inj (Option.some.inj (show some (rI x3) = some _ from e5))
  have kc0 : (ic0 : Int) = (1 * x2.toInt + 0) + 0 := by
    obtain ⟨z, e6, e7⟩ := e4
    obtain rfl : (1 * x2.toInt + 0) = z := Option.some.inj (show some (1 * x2.toInt + 0) = some z from e6)
    exact e7
  clear e1 e4 e5
  have f0 : rB K n p 179 [rR x0, rI x2] σ := by
    obtain ⟨w, e6, e7⟩ := m4 (2866, [0, 2]) (List.mem_of_getElem? (i := 0) rfl)
    obtain rfl : [rR x0, rI x2] = w := Option.some.inj (show some [rR x0, rI x2] = some w from e6)
    exact (rF_b (r := 2866) (by decide) rfl).mp e7
  have f0 := ro_179.mp f0
  clear m1 m2 m3 m4
  have r0 : 0 ≤ (1 * x3.toInt + 0) + -1 := by
    obtain ⟨cc, h1, h4, g, h5, e⟩ := f0
    have e1 := rRo_c (i := ic0) h5 s0 t0 sc0 ec0
    rw [show ic0 = x2.toInt.toNat by omega, e] at e1
    omega
  exact ⟨p, fun _ => rfl, ⟨(fun q h => by cases h), fun q h => (by cases h), (aAllc ⟨_, rfl, r0⟩ (fun f h => by cases h)), (fun f h => by cases h)⟩, [], List.mem_cons_self, fun f h => (by cases h)⟩
theorem rw_rvCN1 {K : Nat → Nat} {n : Nat} {JX : (Nat → jcell) → Prop} : aGho (rF K n) fa_T K n JX ag_rvCN1 := by
  refine aGho_of ⟨rfl, rfl⟩ ?_
  intro p σ ρ hH hX hA hM0
  have hG := aAG_of hA.1 (fun i e v he hv => (hA.2 i e v he hv).1)
  clear hA
  obtain ⟨v0, v1, v2, rfl, g0, g1, g2⟩ := rA_3 hG
  clear hG
  obtain ⟨x0, rfl, b0, d0⟩ := rG_ref (by decide) g0
  obtain ⟨x1, rfl, b1, d1⟩ := aG_int g1
  dsimp only at b1 d1
  obtain ⟨x2, rfl, b2, d2⟩ := aG_int g2
  dsimp only at b2 d2
  obtain ⟨m1, m2, m3, m4⟩ := hM0
  obtain ⟨M, hM⟩ := rMe_ex hH b0 d0
  have f0 : rB K n p 168 [rR x0, rI x1, rI x2] σ := by
    obtain ⟨w, e6, e7⟩ := m4 (2691, [0, 1, 2]) (List.mem_of_getElem? (i := 0) rfl)
    obtain rfl : [rR x0, rI x1, rI x2] = w := Option.some.inj (show some [rR x0, rI x1, rI x2] = some w from e6)
    exact (rF_b (r := 2691) (by decide) rfl).mp e7
  have f0 := ro_168.mp f0
  clear m1 m2 m3 m4
  have q0 : rB K n p 179 [rR x0, rI x1] σ := ro_179.mpr (by
    exact ⟨x2.toInt, by omega, f0⟩)
  exact ⟨p, fun _ => rfl, ⟨(fun q h => by cases h), fun q h => (by cases h), (fun f h => by cases h), (aAllc ⟨_, rfl, (rF_b (r := 2866) (by decide) rfl).mpr q0⟩ (fun f h => by cases h))⟩, [], List.mem_cons_self, fun f h => (by cases h)⟩
theorem rw_rvPGa {K : Nat → Nat} {n : Nat} {JX : (Nat → jcell) → Prop} : aGho (rF K n) fa_T K n JX ag_rvPGa := by
  refine aGho_of ⟨rfl, rfl⟩ ?_
  intro p σ ρ hH hX hA hM0
  have hG := aAG_of hA.1 (fun i e v he hv => (hA.2 i e v he hv).1)
  clear hA
  obtain ⟨v0, v1, v2, v3, rfl, g0, g1, g2, g3⟩ := rA_4 hG
  clear hG
  obtain ⟨x0, rfl, b0, d0⟩ := rG_ref (by decide) g0
  obtain ⟨x1, rfl, b1, d1⟩ := aG_int g1
  dsimp only at b1 d1
  obtain ⟨x2, rfl, b2, d2⟩ := aG_int g2
  dsimp only at b2 d2
  obtain ⟨x3, rfl, b3, d3⟩ := aG_int g3
  dsimp only at b3 d3
  obtain ⟨m1, m2, m3, m4⟩ := hM0
  obtain ⟨M, hM⟩ := rMe_ex hH b0 d0
  have l0 : 0 ≤ (1 * x3.toInt + (-1 * x1.toInt + (-1 * x2.toInt + 0))) + 0 := by
    obtain ⟨z, e6, e7⟩ := m3 ([(3, 1), (1, -1), (2, -1)], 0) (List.mem_of_getElem? (i := 0) rfl)
    obtain rfl : (1 * x3.toInt + (-1 * x1.toInt + (-1 * x2.toInt + 0))) = z := Option.some.inj (show some (1 * x3.toInt + (-1 * x1.toInt + (-1 * x2.toInt + 0))) = some z from e6)
    exact e7
  have l1 : 0 ≤ (-1 * x3.toInt + (1 * x1.toInt + (1 * x2.toInt + 0))) + 0 := by
    obtain ⟨z, e6, e7⟩ := m3 ([(3, -1), (1, 1), (2, 1)], 0) (List.mem_of_getElem? (i := 1) rfl)
    obtain rfl : (-1 * x3.toInt + (1 * x1.toInt + (1 * x2.toInt + 0))) = z := Option.some.inj (show some (-1 * x3.toInt + (1 * x1.toInt + (1 * x2.toInt + 0))) = some z from e6)
    exact e7
  have f0 : rB K n p 172 [rR x0, rI x1, rI x2] σ := by
    obtain ⟨w, e6, e7⟩ := m4 (2755, [0, 1, 2]) (List.mem_of_getElem? (i := 0) rfl)
    obtain rfl : [rR x0, rI x1, rI x2] = w := Option.some.inj (show some [rR x0, rI x1, rI x2] = some w from e6)
    exact (rF_b (r := 2755) (by decide) rfl).mp e7
  have f0 := ro_172.mp f0
  clear m1 m2 m3 m4
  have q0 : rB K n p 170 [rR x0, rI x3] σ := ro_170.mpr (by
    rw [show x3.toInt = x1.toInt + x2.toInt by omega]
    exact f0)
  exact ⟨p, fun _ => rfl, ⟨(fun q h => by cases h), fun q h => (by cases h), (fun f h => by cases h), (aAllc ⟨_, rfl, (rF_b (r := 2722) (by decide) rfl).mpr q0⟩ (fun f h => by cases h))⟩, [], List.mem_cons_self, fun f h => (by cases h)⟩
theorem rw_rvPGb {K : Nat → Nat} {n : Nat} {JX : (Nat → jcell) → Prop} : aGho (rF K n) fa_T K n JX ag_rvPGb := by
  refine aGho_of ⟨rfl, rfl⟩ ?_
  intro p σ ρ hH hX hA hM0
  have hG := aAG_of hA.1 (fun i e v he hv => (hA.2 i e v he hv).1)
  clear hA
  obtain ⟨v0, v1, v2, v3, rfl, g0, g1, g2, g3⟩ := rA_4 hG
  clear hG
  obtain ⟨x0, rfl, b0, d0⟩ := rG_ref (by decide) g0
  obtain ⟨x1, rfl, b1, d1⟩ := aG_int g1
  dsimp only at b1 d1
  obtain ⟨x2, rfl, b2, d2⟩ := aG_int g2
  dsimp only at b2 d2
  obtain ⟨x3, rfl, b3, d3⟩ := aG_int g3
  dsimp only at b3 d3
  obtain ⟨m1, m2, m3, m4⟩ := hM0
  obtain ⟨M, hM⟩ := rMe_ex hH b0 d0
  have l0 : 0 ≤ (1 * x3.toInt + (-1 * x1.toInt + (-1 * x2.toInt + 0))) + 0 := by
    obtain ⟨z, e6, e7⟩ := m3 ([(3, 1), (1, -1), (2, -1)], 0) (List.mem_of_getElem? (i := 0) rfl)
    obtain rfl : (1 * x3.toInt + (-1 * x1.toInt + (-1 * x2.toInt + 0))) = z := Option.some.inj (show some (1 * x3.toInt + (-1 * x1.toInt + (-1 * x2.toInt + 0))) = some z from e6)
    exact e7
  have l1 : 0 ≤ (-1 * x3.toInt + (1 * x1.toInt + (1 * x2.toInt + 0))) + 0 := by
    obtain ⟨z, e6, e7⟩ := m3 ([(3, -1), (1, 1), (2, 1)], 0) (List.mem_of_getElem? (i := 1) rfl)
    obtain rfl : (-1 * x3.toInt + (1 * x1.toInt + (1 * x2.toInt + 0))) = z := Option.some.inj (show some (-1 * x3.toInt + (1 * x1.toInt + (1 * x2.toInt + 0))) = some z from e6)
    exact e7
  have f0 : rB K n p 171 [rR x0, rI x3] σ := by
    obtain ⟨w, e6, e7⟩ := m4 (2738, [0, 3]) (List.mem_of_getElem? (i := 0) rfl)
    obtain rfl : [rR x0, rI x3] = w := Option.some.inj (show some [rR x0, rI x3] = some w from e6)
    exact (rF_b (r := 2738) (by decide) rfl).mp e7
  have f0 := ro_171.mp f0
  clear m1 m2 m3 m4
  have q0 : rB K n p 173 [rR x0, rI x1, rI x2] σ := ro_173.mpr (by
    rw [show x1.toInt + x2.toInt + 1 = x3.toInt + 1 by omega]
    exact f0)
  exact ⟨p, fun _ => rfl, ⟨(fun q h => by cases h), fun q h => (by cases h), (fun f h => by cases h), (aAllc ⟨_, rfl, (rF_b (r := 2771) (by decide) rfl).mpr q0⟩ (fun f h => by cases h))⟩, [], List.mem_cons_self, fun f h => (by cases h)⟩
theorem rw_rvPGc {K : Nat → Nat} {n : Nat} {JX : (Nat → jcell) → Prop} : aGho (rF K n) fa_T K n JX ag_rvPGc := by
  refine aGho_of ⟨rfl, rfl⟩ ?_
  intro p σ ρ hH hX hA hM0
  have hG := aAG_of hA.1 (fun i e v he hv => (hA.2 i e v he hv).1)
  clear hA
  obtain ⟨v0, v1, v2, v3, v4, rfl, g0, g1, g2, g3, g4⟩ := rA_5 hG
  clear hG
  obtain ⟨x0, rfl, b0, d0⟩ := rG_ref (by decide) g0
  obtain ⟨x1, rfl, b1, d1⟩ := aG_int g1
  dsimp only at b1 d1
  obtain ⟨x2, rfl, b2, d2⟩ := aG_int g2
  dsimp only at b2 d2
  obtain ⟨x3, rfl, b3, d3⟩ := aG_int g3
  dsimp only at b3 d3
  obtain ⟨x4, rfl, b4, d4⟩ := aG_int g4
  dsimp only at b4 d4
  obtain ⟨m1, m2, m3, m4⟩ := hM0
  obtain ⟨M, hM⟩ := rMe_ex hH b0 d0
  have l0 : 0 ≤ (1 * x3.toInt + (-1 * x2.toInt + 0)) + -1 := by
    obtain ⟨z, e6, e7⟩ := m3 ([(3, 1), (2, -1)], -1) (List.mem_of_getElem? (i := 0) rfl)
    obtain rfl : (1 * x3.toInt + (-1 * x2.toInt + 0)) = z := Option.some.inj (show some (1 * x3.toInt + (-1 * x2.toInt + 0)) = some z from e6)
    exact e7
  have l1 : 0 ≤ (-1 * x3.toInt + (1 * x2.toInt + 0)) + 1 := by
    obtain ⟨z, e6, e7⟩ := m3 ([(3, -1), (2, 1)], 1) (List.mem_of_getElem? (i := 1) rfl)
    obtain rfl : (-1 * x3.toInt + (1 * x2.toInt + 0)) = z := Option.some.inj (show some (-1 * x3.toInt + (1 * x2.toInt + 0)) = some z from e6)
    exact e7
  have f0 : rB K n p 173 [rR x0, rI x1, rI x2] σ := by
    obtain ⟨w, e6, e7⟩ := m4 (2771, [0, 1, 2]) (List.mem_of_getElem? (i := 0) rfl)
    obtain rfl : [rR x0, rI x1, rI x2] = w := Option.some.inj (show some [rR x0, rI x1, rI x2] = some w from e6)
    exact (rF_b (r := 2771) (by decide) rfl).mp e7
  have f0 := ro_173.mp f0
  clear m1 m2 m3 m4
  have q0 : rB K n (rSh rS1 p [rR x0, rI x4]) 172 [rR x0, rI x1, rI x3] σ := ro_172.mpr (by
    rw [show x1.toInt + x3.toInt = x1.toInt + x2.toInt + 1 by omega]
    exact f0)
  exact ⟨p, fun _ => rfl, ⟨(fun q h => by cases h), fun q h => (by cases h), (fun f h => by cases h), (aAllc ⟨_, rfl, (rF_g (r := 2755) (by decide)).mpr q0⟩ (fun f h => by cases h))⟩, [], List.mem_cons_self, fun f h => (by cases h)⟩
theorem rw_rvBE {K : Nat → Nat} {n : Nat} {JX : (Nat → jcell) → Prop} : aGho (rF K n) fa_T K n JX ag_rvBE := by
  refine aGho_of ⟨rfl, rfl⟩ ?_
  intro p σ ρ hH hX hA hM0
  have hG := aAG_of hA.1 (fun i e v he hv => (hA.2 i e v he hv).1)
  clear hA
  obtain ⟨v0, v1, rfl, g0, g1⟩ := rA_2 hG
  clear hG
  obtain ⟨x0, rfl, b0, d0⟩ := rG_ref (by decide) g0
  obtain ⟨x1, rfl, b1, d1⟩ := aG_int g1
  dsimp only at b1 d1
  obtain ⟨m1, m2, m3, m4⟩ := hM0
  obtain ⟨M, hM⟩ := rMe_ex hH b0 d0
  have f0 : rB K n p 25 [rI x1] σ := by
    obtain ⟨w, e6, e7⟩ := m4 (401, [1]) (List.mem_of_getElem? (i := 0) rfl)
    obtain rfl : [rI x1] = w := Option.some.inj (show some [rI x1] = some w from e6)
    exact (rF_b (r := 401) (by decide) rfl).mp e7
  have f0 := ro_25.mp f0
  have f1 : rB K n (rSh rS1 p [rR x0, rI x1]) 24 [] σ := by
    obtain ⟨w, e6, e7⟩ := m4 (384, [0, 1]) (List.mem_of_getElem? (i := 1) rfl)
    obtain rfl : [rR x0, rI x1] = w := Option.some.inj (show some [rR x0, rI x1] = some w from e6)
    exact (rF_g (r := 384) (by decide)).mp e7
  have f1 := ro_24.mp f1
  clear m1 m2 m3 m4
  have q0 : rB K n p 93 [rI x1] σ := ro_93.mpr (by
    refine ⟨f0, ?_⟩
    rw [Int32.ofInt_toInt, rSh_any (b := x0)]
    exact f1)
  exact ⟨p, fun _ => rfl, ⟨(fun q h => by cases h), fun q h => (by cases h), (fun f h => by cases h), (aAllc ⟨_, rfl, (rF_b (r := 1489) (by decide) rfl).mpr q0⟩ (fun f h => by cases h))⟩, [], List.mem_cons_self, fun f h => (by cases h)⟩
theorem rw_rvBO {K : Nat → Nat} {n : Nat} {JX : (Nat → jcell) → Prop} : aGho (rF K n) fa_T K n JX ag_rvBO := by
  refine aGho_of ⟨rfl, rfl⟩ ?_
  intro p σ ρ hH hX hA hM0
  have hG := aAG_of hA.1 (fun i e v he hv => (hA.2 i e v he hv).1)
  clear hA
  obtain ⟨v0, v1, rfl, g0, g1⟩ := rA_2 hG
  clear hG
  obtain ⟨x0, rfl, b0, d0⟩ := rG_ref (by decide) g0
  obtain ⟨x1, rfl, b1, d1⟩ := aG_int g1
  dsimp only at b1 d1
  obtain ⟨m1, m2, m3, m4⟩ := hM0
  obtain ⟨M, hM⟩ := rMe_ex hH b0 d0
  have f0 : rB K n p 93 [rI x1] σ := by
    obtain ⟨w, e6, e7⟩ := m4 (1489, [1]) (List.mem_of_getElem? (i := 0) rfl)
    obtain rfl : [rI x1] = w := Option.some.inj (show some [rI x1] = some w from e6)
    exact (rF_b (r := 1489) (by decide) rfl).mp e7
  have f0 := ro_93.mp f0
  clear m1 m2 m3 m4
  have q0 : rB K n p 25 [rI x1] σ := ro_25.mpr (by
    exact f0.1)
  have q1 : rB K n (rSh rS1 p [rR x0, rI x1]) 24 [] σ := ro_24.mpr (by
    have h := f0.2
    rw [Int32.ofInt_toInt, rSh_any (b := x0)] at h
    exact h)
  exact ⟨p, fun _ => rfl, ⟨(fun q h => by cases h), fun q h => (by cases h), (fun f h => by cases h), (aAllc ⟨_, rfl, (rF_b (r := 401) (by decide) rfl).mpr q0⟩ (aAllc ⟨_, rfl, (rF_g (r := 384) (by decide)).mpr q1⟩ (fun f h => by cases h)))⟩, [], List.mem_cons_self, fun f h => (by cases h)⟩

