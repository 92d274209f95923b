section
/-! the reference: rules of u1 -/
theorem rw_rvSTna {K : Nat → Nat} {n : Nat} {JX : (Nat → jcell) → Prop} : aGho (rF K n) fa_T K n JX ag_rvSTna := by
  refine aGho_of ⟨rfl, rfl⟩ ?_
  intro p σ ρ hH hX hA hM0
  have hG := aAG_of hA.1 (fun i e v he hv => (hA.2 i e v he hv).1)
  clear hA
  obtain ⟨v0, v1, v2, v3, v4, v5, v6, rfl, g0, g1, g2, g3, g4, g5, g6⟩ := rA_7 hG
  clear hG
  obtain ⟨x0, rfl, b0, d0⟩ := aG_int g0
  dsimp only at b0 d0
  obtain ⟨x1, rfl, b1, d1⟩ := aG_int g1
  dsimp only at b1 d1
  obtain ⟨x2, rfl, b2, d2⟩ := aG_int g2
  dsimp only at b2 d2
  obtain ⟨x3, rfl, b3, d3⟩ := aG_int g3
  dsimp only at b3 d3
  obtain ⟨x4, rfl, b4, d4⟩ := aG_int g4
  dsimp only at b4 d4
  obtain ⟨x5, rfl, b5, d5⟩ := aG_int g5
  dsimp only at b5 d5
  obtain ⟨x6, rfl, b6, d6⟩ := aG_int g6
  dsimp only at b6 d6
  obtain ⟨m1, m2, m3, m4⟩ := hM0
  have l0 : 0 ≤ (1 * x0.toInt + (-8 * x4.toInt + 0)) + 0 := by
    obtain ⟨z, e6, e7⟩ := m3 ([(0, 1), (4, -8)], 0) (List.mem_of_getElem? (i := 0) rfl)
    obtain rfl : (1 * x0.toInt + (-8 * x4.toInt + 0)) = z := Option.some.inj (show some (1 * x0.toInt + (-8 * x4.toInt + 0)) = some z from e6)
    exact e7
  have l1 : 0 ≤ (-1 * x0.toInt + (8 * x4.toInt + 0)) + 7 := by
    obtain ⟨z, e6, e7⟩ := m3 ([(0, -1), (4, 8)], 7) (List.mem_of_getElem? (i := 1) rfl)
    obtain rfl : (-1 * x0.toInt + (8 * x4.toInt + 0)) = z := Option.some.inj (show some (-1 * x0.toInt + (8 * x4.toInt + 0)) = some z from e6)
    exact e7
  have l2 : 0 ≤ (1 * x5.toInt + (-1 * x0.toInt + (8 * x4.toInt + (-1 * x1.toInt + 0)))) + 0 := by
    obtain ⟨z, e6, e7⟩ := m3 ([(5, 1), (0, -1), (4, 8), (1, -1)], 0) (List.mem_of_getElem? (i := 2) rfl)
    obtain rfl : (1 * x5.toInt + (-1 * x0.toInt + (8 * x4.toInt + (-1 * x1.toInt + 0)))) = z := Option.some.inj (show some (1 * x5.toInt + (-1 * x0.toInt + (8 * x4.toInt + (-1 * x1.toInt + 0)))) = some z from e6)
    exact e7
  have l3 : 0 ≤ (-1 * x5.toInt + (1 * x0.toInt + (-8 * x4.toInt + (1 * x1.toInt + 0)))) + 0 := by
    obtain ⟨z, e6, e7⟩ := m3 ([(5, -1), (0, 1), (4, -8), (1, 1)], 0) (List.mem_of_getElem? (i := 3) rfl)
    obtain rfl : (-1 * x5.toInt + (1 * x0.toInt + (-8 * x4.toInt + (1 * x1.toInt + 0)))) = z := Option.some.inj (show some (-1 * x5.toInt + (1 * x0.toInt + (-8 * x4.toInt + (1 * x1.toInt + 0)))) = some z from e6)
    exact e7
  have l4 : 0 ≤ (1 * x6.toInt + (-1 * x4.toInt + (-1 * x2.toInt + 0))) + 0 := by
    obtain ⟨z, e6, e7⟩ := m3 ([(6, 1), (4, -1), (2, -1)], 0) (List.mem_of_getElem? (i := 4) rfl)
    obtain rfl : (1 * x6.toInt + (-1 * x4.toInt + (-1 * x2.toInt + 0))) = z := Option.some.inj (show some (1 * x6.toInt + (-1 * x4.toInt + (-1 * x2.toInt + 0))) = some z from e6)
    exact e7
  have l5 : 0 ≤ (-1 * x6.toInt + (1 * x4.toInt + (1 * x2.toInt + 0))) + 0 := by
    obtain ⟨z, e6, e7⟩ := m3 ([(6, -1), (4, 1), (2, 1)], 0) (List.mem_of_getElem? (i := 5) rfl)
    obtain rfl : (-1 * x6.toInt + (1 * x4.toInt + (1 * x2.toInt + 0))) = z := Option.some.inj (show some (-1 * x6.toInt + (1 * x4.toInt + (1 * x2.toInt + 0))) = some z from e6)
    exact e7
  clear m1 m2 m3 m4
  have q0 : rB K n p 120 [rI x0, rI x1, rI x2, rI x3] σ := ro_120.mpr (by
    unfold rSp
    rw [if_neg (by omega)]
    omega)
  exact ⟨p, fun _ => rfl, ⟨(fun q h => by cases h), fun q h => (by cases h), (fun f h => by cases h), (aAllc ⟨_, rfl, (rF_b (r := 1924) (by decide) rfl).mpr q0⟩ (fun f h => by cases h))⟩, [], List.mem_cons_self, fun f h => (by cases h)⟩
theorem rw_rvSTnb {K : Nat → Nat} {n : Nat} {JX : (Nat → jcell) → Prop} : aGho (rF K n) fa_T K n JX ag_rvSTnb := by
  refine aGho_of ⟨rfl, rfl⟩ ?_
  intro p σ ρ hH hX hA hM0
  have hG := aAG_of hA.1 (fun i e v he hv => (hA.2 i e v he hv).1)
  clear hA
  obtain ⟨v0, v1, v2, v3, v4, v5, v6, rfl, g0, g1, g2, g3, g4, g5, g6⟩ := rA_7 hG
  clear hG
  obtain ⟨x0, rfl, b0, d0⟩ := aG_int g0
  dsimp only at b0 d0
  obtain ⟨x1, rfl, b1, d1⟩ := aG_int g1
  dsimp only at b1 d1
  obtain ⟨x2, rfl, b2, d2⟩ := aG_int g2
  dsimp only at b2 d2
  obtain ⟨x3, rfl, b3, d3⟩ := aG_int g3
  dsimp only at b3 d3
  obtain ⟨x4, rfl, b4, d4⟩ := aG_int g4
  dsimp only at b4 d4
  obtain ⟨x5, rfl, b5, d5⟩ := aG_int g5
  dsimp only at b5 d5
  obtain ⟨x6, rfl, b6, d6⟩ := aG_int g6
  dsimp only at b6 d6
  obtain ⟨m1, m2, m3, m4⟩ := hM0
  have l0 : 0 ≤ (1 * x0.toInt + (-8 * x4.toInt + 0)) + 0 := by
    obtain ⟨z, e6, e7⟩ := m3 ([(0, 1), (4, -8)], 0) (List.mem_of_getElem? (i := 0) rfl)
    obtain rfl : (1 * x0.toInt + (-8 * x4.toInt + 0)) = z := Option.some.inj (show some (1 * x0.toInt + (-8 * x4.toInt + 0)) = some z from e6)
    exact e7
  have l1 : 0 ≤ (-1 * x0.toInt + (8 * x4.toInt + 0)) + 7 := by
    obtain ⟨z, e6, e7⟩ := m3 ([(0, -1), (4, 8)], 7) (List.mem_of_getElem? (i := 1) rfl)
    obtain rfl : (-1 * x0.toInt + (8 * x4.toInt + 0)) = z := Option.some.inj (show some (-1 * x0.toInt + (8 * x4.toInt + 0)) = some z from e6)
    exact e7
  have l2 : 0 ≤ (1 * x5.toInt + (-1 * x0.toInt + (8 * x4.toInt + (-1 * x1.toInt + 0)))) + 0 := by
    obtain ⟨z, e6, e7⟩ := m3 ([(5, 1), (0, -1), (4, 8), (1, -1)], 0) (List.mem_of_getElem? (i := 2) rfl)
    obtain rfl : (1 * x5.toInt + (-1 * x0.toInt + (8 * x4.toInt + (-1 * x1.toInt + 0)))) = z := Option.some.inj (show some (1 * x5.toInt + (-1 * x0.toInt + (8 * x4.toInt + (-1 * x1.toInt + 0)))) = some z from e6)
    exact e7
  have l3 : 0 ≤ (-1 * x5.toInt + (1 * x0.toInt + (-8 * x4.toInt + (1 * x1.toInt + 0)))) + 0 := by
    obtain ⟨z, e6, e7⟩ := m3 ([(5, -1), (0, 1), (4, -8), (1, 1)], 0) (List.mem_of_getElem? (i := 3) rfl)
    obtain rfl : (-1 * x5.toInt + (1 * x0.toInt + (-8 * x4.toInt + (1 * x1.toInt + 0)))) = z := Option.some.inj (show some (-1 * x5.toInt + (1 * x0.toInt + (-8 * x4.toInt + (1 * x1.toInt + 0)))) = some z from e6)
    exact e7
  have l4 : 0 ≤ (1 * x6.toInt + (-1 * x4.toInt + (-1 * x2.toInt + 0))) + 0 := by
    obtain ⟨z, e6, e7⟩ := m3 ([(6, 1), (4, -1), (2, -1)], 0) (List.mem_of_getElem? (i := 4) rfl)
    obtain rfl : (1 * x6.toInt + (-1 * x4.toInt + (-1 * x2.toInt + 0))) = z := Option.some.inj (show some (1 * x6.toInt + (-1 * x4.toInt + (-1 * x2.toInt + 0))) = some z from e6)
    exact e7
  have l5 : 0 ≤ (-1 * x6.toInt + (1 * x4.toInt + (1 * x2.toInt + 0))) + 0 := by
    obtain ⟨z, e6, e7⟩ := m3 ([(6, -1), (4, 1), (2, 1)], 0) (List.mem_of_getElem? (i := 5) rfl)
    obtain rfl : (-1 * x6.toInt + (1 * x4.toInt + (1 * x2.toInt + 0))) = z := Option.some.inj (show some (-1 * x6.toInt + (1 * x4.toInt + (1 * x2.toInt + 0))) = some z from e6)
    exact e7
  clear m1 m2 m3 m4
  have q0 : rB K n p 120 [rI x0, rI x1, rI x2, rI x3] σ := ro_120.mpr (by
    unfold rSp
    rw [if_neg (by omega)]
    omega)
  exact ⟨p, fun _ => rfl, ⟨(fun q h => by cases h), fun q h => (by cases h), (fun f h => by cases h), (aAllc ⟨_, rfl, (rF_b (r := 1924) (by decide) rfl).mpr q0⟩ (fun f h => by cases h))⟩, [], List.mem_cons_self, fun f h => (by cases h)⟩
theorem rw_rvSTnc {K : Nat → Nat} {n : Nat} {JX : (Nat → jcell) → Prop} : aGho (rF K n) fa_T K n JX ag_rvSTnc := by
  refine aGho_of ⟨rfl, rfl⟩ ?_
  intro p σ ρ hH hX hA hM0
  have hG := aAG_of hA.1 (fun i e v he hv => (hA.2 i e v he hv).1)
  clear hA
  obtain ⟨v0, v1, v2, v3, v4, v5, v6, rfl, g0, g1, g2, g3, g4, g5, g6⟩ := rA_7 hG
  clear hG
  obtain ⟨x0, rfl, b0, d0⟩ := aG_int g0
  dsimp only at b0 d0
  obtain ⟨x1, rfl, b1, d1⟩ := aG_int g1
  dsimp only at b1 d1
  obtain ⟨x2, rfl, b2, d2⟩ := aG_int g2
  dsimp only at b2 d2
  obtain ⟨x3, rfl, b3, d3⟩ := aG_int g3
  dsimp only at b3 d3
  obtain ⟨x4, rfl, b4, d4⟩ := aG_int g4
  dsimp only at b4 d4
  obtain ⟨x5, rfl, b5, d5⟩ := aG_int g5
  dsimp only at b5 d5
  obtain ⟨x6, rfl, b6, d6⟩ := aG_int g6
  dsimp only at b6 d6
  obtain ⟨m1, m2, m3, m4⟩ := hM0
  have l0 : 0 ≤ (1 * x0.toInt + (-8 * x4.toInt + 0)) + 0 := by
    obtain ⟨z, e6, e7⟩ := m3 ([(0, 1), (4, -8)], 0) (List.mem_of_getElem? (i := 0) rfl)
    obtain rfl : (1 * x0.toInt + (-8 * x4.toInt + 0)) = z := Option.some.inj (show some (1 * x0.toInt + (-8 * x4.toInt + 0)) = some z from e6)
    exact e7
  have l1 : 0 ≤ (-1 * x0.toInt + (8 * x4.toInt + 0)) + 7 := by
    obtain ⟨z, e6, e7⟩ := m3 ([(0, -1), (4, 8)], 7) (List.mem_of_getElem? (i := 1) rfl)
    obtain rfl : (-1 * x0.toInt + (8 * x4.toInt + 0)) = z := Option.some.inj (show some (-1 * x0.toInt + (8 * x4.toInt + 0)) = some z from e6)
    exact e7
  have l2 : 0 ≤ (1 * x5.toInt + (-1 * x0.toInt + (8 * x4.toInt + (-1 * x1.toInt + 0)))) + 0 := by
    obtain ⟨z, e6, e7⟩ := m3 ([(5, 1), (0, -1), (4, 8), (1, -1)], 0) (List.mem_of_getElem? (i := 2) rfl)
    obtain rfl : (1 * x5.toInt + (-1 * x0.toInt + (8 * x4.toInt + (-1 * x1.toInt + 0)))) = z := Option.some.inj (show some (1 * x5.toInt + (-1 * x0.toInt + (8 * x4.toInt + (-1 * x1.toInt + 0)))) = some z from e6)
    exact e7
  have l3 : 0 ≤ (-1 * x5.toInt + (1 * x0.toInt + (-8 * x4.toInt + (1 * x1.toInt + 0)))) + 0 := by
    obtain ⟨z, e6, e7⟩ := m3 ([(5, -1), (0, 1), (4, -8), (1, 1)], 0) (List.mem_of_getElem? (i := 3) rfl)
    obtain rfl : (-1 * x5.toInt + (1 * x0.toInt + (-8 * x4.toInt + (1 * x1.toInt + 0)))) = z := Option.some.inj (show some (-1 * x5.toInt + (1 * x0.toInt + (-8 * x4.toInt + (1 * x1.toInt + 0)))) = some z from e6)
    exact e7
  have l4 : 0 ≤ (1 * x6.toInt + (-1 * x4.toInt + (-1 * x2.toInt + 0))) + 0 := by
    obtain ⟨z, e6, e7⟩ := m3 ([(6, 1), (4, -1), (2, -1)], 0) (List.mem_of_getElem? (i := 4) rfl)
    obtain rfl : (1 * x6.toInt + (-1 * x4.toInt + (-1 * x2.toInt + 0))) = z := Option.some.inj (show some (1 * x6.toInt + (-1 * x4.toInt + (-1 * x2.toInt + 0))) = some z from e6)
    exact e7
  have l5 : 0 ≤ (-1 * x6.toInt + (1 * x4.toInt + (1 * x2.toInt + 0))) + 0 := by
    obtain ⟨z, e6, e7⟩ := m3 ([(6, -1), (4, 1), (2, 1)], 0) (List.mem_of_getElem? (i := 5) rfl)
    obtain rfl : (-1 * x6.toInt + (1 * x4.toInt + (1 * x2.toInt + 0))) = z := Option.some.inj (show some (-1 * x6.toInt + (1 * x4.toInt + (1 * x2.toInt + 0))) = some z from e6)
    exact e7
  clear m1 m2 m3 m4
  have q0 : rB K n p 120 [rI x0, rI x1, rI x2, rI x3] σ := ro_120.mpr (by
    unfold rSp
    rw [if_neg (by omega)]
    omega)
  exact ⟨p, fun _ => rfl, ⟨(fun q h => by cases h), fun q h => (by cases h), (fun f h => by cases h), (aAllc ⟨_, rfl, (rF_b (r := 1924) (by decide) rfl).mpr q0⟩ (fun f h => by cases h))⟩, [], List.mem_cons_self, fun f h => (by cases h)⟩
theorem rw_rvSTnd {K : Nat → Nat} {n : Nat} {JX : (Nat → jcell) → Prop} : aGho (rF K n) fa_T K n JX ag_rvSTnd := by
  refine aGho_of ⟨rfl, rfl⟩ ?_
  intro p σ ρ hH hX hA hM0
  have hG := aAG_of hA.1 (fun i e v he hv => (hA.2 i e v he hv).1)
  clear hA
  obtain ⟨v0, v1, v2, v3, v4, v5, v6, rfl, g0, g1, g2, g3, g4, g5, g6⟩ := rA_7 hG
  clear hG
  obtain ⟨x0, rfl, b0, d0⟩ := aG_int g0
  dsimp only at b0 d0
  obtain ⟨x1, rfl, b1, d1⟩ := aG_int g1
  dsimp only at b1 d1
  obtain ⟨x2, rfl, b2, d2⟩ := aG_int g2
  dsimp only at b2 d2
  obtain ⟨x3, rfl, b3, d3⟩ := aG_int g3
  dsimp only at b3 d3
  obtain ⟨x4, rfl, b4, d4⟩ := aG_int g4
  dsimp only at b4 d4
  obtain ⟨x5, rfl, b5, d5⟩ := aG_int g5
  dsimp only at b5 d5
  obtain ⟨x6, rfl, b6, d6⟩ := aG_int g6
  dsimp only at b6 d6
  obtain ⟨m1, m2, m3, m4⟩ := hM0
  have l0 : 0 ≤ (1 * x0.toInt + (-8 * x4.toInt + 0)) + 0 := by
    obtain ⟨z, e6, e7⟩ := m3 ([(0, 1), (4, -8)], 0) (List.mem_of_getElem? (i := 0) rfl)
    obtain rfl : (1 * x0.toInt + (-8 * x4.toInt + 0)) = z := Option.some.inj (show some (1 * x0.toInt + (-8 * x4.toInt + 0)) = some z from e6)
    exact e7
  have l1 : 0 ≤ (-1 * x0.toInt + (8 * x4.toInt + 0)) + 7 := by
    obtain ⟨z, e6, e7⟩ := m3 ([(0, -1), (4, 8)], 7) (List.mem_of_getElem? (i := 1) rfl)
    obtain rfl : (-1 * x0.toInt + (8 * x4.toInt + 0)) = z := Option.some.inj (show some (-1 * x0.toInt + (8 * x4.toInt + 0)) = some z from e6)
    exact e7
  have l2 : 0 ≤ (1 * x5.toInt + (-1 * x0.toInt + (8 * x4.toInt + (-1 * x1.toInt + 0)))) + 0 := by
    obtain ⟨z, e6, e7⟩ := m3 ([(5, 1), (0, -1), (4, 8), (1, -1)], 0) (List.mem_of_getElem? (i := 2) rfl)
    obtain rfl : (1 * x5.toInt + (-1 * x0.toInt + (8 * x4.toInt + (-1 * x1.toInt + 0)))) = z := Option.some.inj (show some (1 * x5.toInt + (-1 * x0.toInt + (8 * x4.toInt + (-1 * x1.toInt + 0)))) = some z from e6)
    exact e7
  have l3 : 0 ≤ (-1 * x5.toInt + (1 * x0.toInt + (-8 * x4.toInt + (1 * x1.toInt + 0)))) + 0 := by
    obtain ⟨z, e6, e7⟩ := m3 ([(5, -1), (0, 1), (4, -8), (1, 1)], 0) (List.mem_of_getElem? (i := 3) rfl)
    obtain rfl : (-1 * x5.toInt + (1 * x0.toInt + (-8 * x4.toInt + (1 * x1.toInt + 0)))) = z := Option.some.inj (show some (-1 * x5.toInt + (1 * x0.toInt + (-8 * x4.toInt + (1 * x1.toInt + 0)))) = some z from e6)
    exact e7
  have l4 : 0 ≤ (1 * x6.toInt + (-1 * x4.toInt + (-1 * x2.toInt + 0))) + 0 := by
    obtain ⟨z, e6, e7⟩ := m3 ([(6, 1), (4, -1), (2, -1)], 0) (List.mem_of_getElem? (i := 4) rfl)
    obtain rfl : (1 * x6.toInt + (-1 * x4.toInt + (-1 * x2.toInt + 0))) = z := Option.some.inj (show some (1 * x6.toInt + (-1 * x4.toInt + (-1 * x2.toInt + 0))) = some z from e6)
    exact e7
  have l5 : 0 ≤ (-1 * x6.toInt + (1 * x4.toInt + (1 * x2.toInt + 0))) + 0 := by
    obtain ⟨z, e6, e7⟩ := m3 ([(6, -1), (4, 1), (2, 1)], 0) (List.mem_of_getElem? (i := 5) rfl)
    obtain rfl : (-1 * x6.toInt + (1 * x4.toInt + (1 * x2.toInt + 0))) = z := Option.some.inj (show some (-1 * x6.toInt + (1 * x4.toInt + (1 * x2.toInt + 0))) = some z from e6)
    exact e7
  clear m1 m2 m3 m4
  have q0 : rB K n p 120 [rI x0, rI x1, rI x2, rI x3] σ := ro_120.mpr (by
    unfold rSp
    rw [if_neg (by omega)]
    omega)
  exact ⟨p, fun _ => rfl, ⟨(fun q h => by cases h), fun q h => (by cases h), (fun f h => by cases h), (aAllc ⟨_, rfl, (rF_b (r := 1924) (by decide) rfl).mpr q0⟩ (fun f h => by cases h))⟩, [], List.mem_cons_self, fun f h => (by cases h)⟩
theorem rw_rwSD1 {K : Nat → Nat} {n : Nat} {JX : (Nat → jcell) → Prop} : aGho (rF K n) fa_T K n JX ag_rwSD1 := by
  refine aGho_of ⟨rfl, rfl⟩ ?_
  intro p σ ρ hH hX hA hM0
  have hG := aAG_of hA.1 (fun i e v he hv => (hA.2 i e v he hv).1)
  clear hA
  obtain ⟨v0, v1, v2, v3, v4, v5, rfl, g0, g1, g2, g3, g4, g5⟩ := rA_6 hG
  clear hG
  obtain ⟨x0, rfl, b0, d0⟩ := rG_ref (by decide) g0
  obtain ⟨x1, rfl, b1, d1⟩ := aG_int g1
  dsimp only at b1 d1
  obtain ⟨x2, rfl, b2, d2⟩ := aG_int g2
  dsimp only at b2 d2
  obtain ⟨x3, rfl, b3, d3⟩ := aG_int g3
  dsimp only at b3 d3
  obtain ⟨x4, rfl, b4, d4⟩ := aG_int g4
  dsimp only at b4 d4
  obtain ⟨x5, rfl, b5, d5⟩ := rG_ref (by decide) g5
  obtain ⟨m1, m2, m3, m4⟩ := hM0
  obtain ⟨T, hT⟩ := rTe_ex hH b0 d0
  obtain ⟨a0, c0, fs0, w0, e1, s0, t0, e4⟩ := m1 (0, 24, 5) (List.mem_of_getElem? (i := 0) rfl)
  obtain rfl : x0 = a0 := Sum.inl.inj (Option.some.inj (Sum.inr.inj (Sum.inr.inj (Option.some.inj (show some (rR x0) = some _ from e1)))))
  obtain rfl : rR x5 = w0 := Option.some.inj (show some (rR x5) = some w0 from e4)
  clear e1 e4
  obtain ⟨a, mc0, ty0, gc0, ic0, e1, sc0, jc0, e4, e5⟩ := m2 (5, ([(1, 1)], 0), 3) (List.mem_of_getElem? (i := 0) rfl)
  obtain rfl : x5 = a := Sum.inl.inj (Option.some.inj (Sum.inr.inj (Sum.inr.inj (Option.some.inj (show some (rR x5) = some _ from e1)))))
  obtain ⟨gc0, rfl⟩ : ∃ g, gc0 = .inl g := by
    rcases gc0 with g | g
    · exact ⟨g, rfl⟩
    · exact absurd (show some (rI x3) = some (.inr (.inl (g ic0))) from e5) (fun h => by cases h)
  have sc0 : σ x5 = .inl (ty0, mc0, .inl gc0) := sc0
  have ec0 : x3 = gc0 ic0 := Sum.inl.inj (Option.some.inj (show some (rI x3) = some _ from e5))
  have kc0 : (ic0 : Int) = (1 * x1.toInt + 0) + 0 := by
    obtain ⟨z, e6, e7⟩ := e4
    obtain rfl : (1 * x1.toInt + 0) = z := Option.some.inj (show some (1 * x1.toInt + 0) = some z from e6)
    exact e7
  clear e1 e4 e5
  have l0 : 0 ≤ (1 * x2.toInt + (-1 * x3.toInt + 0)) + 0 := by
    obtain ⟨z, e6, e7⟩ := m3 ([(2, 1), (3, -1)], 0) (List.mem_of_getElem? (i := 0) rfl)
    obtain rfl : (1 * x2.toInt + (-1 * x3.toInt + 0)) = z := Option.some.inj (show some (1 * x2.toInt + (-1 * x3.toInt + 0)) = some z from e6)
    exact e7
  have l1 : 0 ≤ (-1 * x2.toInt + (1 * x3.toInt + 0)) + 0 := by
    obtain ⟨z, e6, e7⟩ := m3 ([(2, -1), (3, 1)], 0) (List.mem_of_getElem? (i := 1) rfl)
    obtain rfl : (-1 * x2.toInt + (1 * x3.toInt + 0)) = z := Option.some.inj (show some (-1 * x2.toInt + (1 * x3.toInt + 0)) = some z from e6)
    exact e7
  have y0 : T x1.toInt = x3.toInt := rMg_c hT s0 t0 sc0 (by omega) (by omega) (by omega) ec0
  clear m1 m2 m3 m4
  have q0 : rB K n p 200 [rR x0, rI x1, rI x2, rI x4] σ := ro_200.mpr ⟨_, hT, by
    omega⟩
  exact ⟨p, fun _ => rfl, ⟨(fun q h => by cases h), fun q h => (by cases h), (fun f h => by cases h), (aAllc ⟨_, rfl, (rF_b (r := 3204) (by decide) rfl).mpr q0⟩ (fun f h => by cases h))⟩, [], List.mem_cons_self, fun f h => (by cases h)⟩
theorem rw_rwSDa {K : Nat → Nat} {n : Nat} {JX : (Nat → jcell) → Prop} : aGho (rF K n) fa_T K n JX ag_rwSDa := by
  refine aGho_of ⟨rfl, rfl⟩ ?_
  intro p σ ρ hH hX hA hM0
  have hG := aAG_of hA.1 (fun i e v he hv => (hA.2 i e v he hv).1)
  clear hA
  obtain ⟨v0, v1, v2, v3, v4, v5, rfl, g0, g1, g2, g3, g4, g5⟩ := rA_6 hG
  clear hG
  obtain ⟨x0, rfl, b0, d0⟩ := rG_ref (by decide) g0
  obtain ⟨x1, rfl, b1, d1⟩ := aG_int g1
  dsimp only at b1 d1
  obtain ⟨x2, rfl, b2, d2⟩ := aG_int g2
  dsimp only at b2 d2
  obtain ⟨x3, rfl, b3, d3⟩ := aG_int g3
  dsimp only at b3 d3
  obtain ⟨x4, rfl, b4, d4⟩ := aG_int g4
  dsimp only at b4 d4
  obtain ⟨x5, rfl, b5, d5⟩ := rG_ref (by decide) g5
  obtain ⟨m1, m2, m3, m4⟩ := hM0
  obtain ⟨T, hT⟩ := rTe_ex hH b0 d0
  obtain ⟨a0, c0, fs0, w0, e1, s0, t0, e4⟩ := m1 (0, 24, 5) (List.mem_of_getElem? (i := 0) rfl)
  obtain rfl : x0 = a0 := Sum.inl.inj (Option.some.inj (Sum.inr.inj (Sum.inr.inj (Option.some.inj (show some (rR x0) = some _ from e1)))))
  obtain rfl : rR x5 = w0 := Option.some.inj (show some (rR x5) = some w0 from e4)
  clear e1 e4
  obtain ⟨a, mc0, ty0, gc0, ic0, e1, sc0, jc0, e4, e5⟩ := m2 (5, ([(1, 1)], 0), 3) (List.mem_of_getElem? (i := 0) rfl)
  obtain rfl : x5 = a := Sum.inl.inj (Option.some.inj (Sum.inr.inj (Sum.inr.inj (Option.some.inj (show some (rR x5) = some _ from e1)))))
  obtain ⟨gc0, rfl⟩ : ∃ g, gc0 = .inl g := by
    rcases gc0 with g | g
    · exact ⟨g, rfl⟩
    · exact absurd (show some (rI x3) = some (.inr (.inl (g ic0))) from e5) (fun h => by cases h)
  have sc0 : σ x5 = .inl (ty0, mc0, .inl gc0) := sc0
  have ec0 : x3 = gc0 ic0 := Sum.inl.inj (Option.some.inj (show some (rI x3) = some _ from e5))
  have kc0 : (ic0 : Int) = (1 * x1.toInt + 0) + 0 := by
    obtain ⟨z, e6, e7⟩ := e4
    obtain rfl : (1 * x1.toInt + 0) = z := Option.some.inj (show some (1 * x1.toInt + 0) = some z from e6)
    exact e7
  clear e1 e4 e5
  have l0 : 0 ≤ (1 * x2.toInt + (-1 * x3.toInt + 0)) + -1 := by
    obtain ⟨z, e6, e7⟩ := m3 ([(2, 1), (3, -1)], -1) (List.mem_of_getElem? (i := 0) rfl)
    obtain rfl : (1 * x2.toInt + (-1 * x3.toInt + 0)) = z := Option.some.inj (show some (1 * x2.toInt + (-1 * x3.toInt + 0)) = some z from e6)
    exact e7
  have y0 : T x1.toInt = x3.toInt := rMg_c hT s0 t0 sc0 (by omega) (by omega) (by omega) ec0
  clear m1 m2 m3 m4
  have q0 : rB K n p 200 [rR x0, rI x1, rI x2, rI x4] σ := ro_200.mpr ⟨_, hT, by
    omega⟩
  exact ⟨p, fun _ => rfl, ⟨(fun q h => by cases h), fun q h => (by cases h), (fun f h => by cases h), (aAllc ⟨_, rfl, (rF_b (r := 3204) (by decide) rfl).mpr q0⟩ (fun f h => by cases h))⟩, [], List.mem_cons_self, fun f h => (by cases h)⟩
theorem rw_rwSDb {K : Nat → Nat} {n : Nat} {JX : (Nat → jcell) → Prop} : aGho (rF K n) fa_T K n JX ag_rwSDb := by
  refine aGho_of ⟨rfl, rfl⟩ ?_
  intro p σ ρ hH hX hA hM0
  have hG := aAG_of hA.1 (fun i e v he hv => (hA.2 i e v he hv).1)
  clear hA
  obtain ⟨v0, v1, v2, v3, v4, v5, rfl, g0, g1, g2, g3, g4, g5⟩ := rA_6 hG
  clear hG
  obtain ⟨x0, rfl, b0, d0⟩ := rG_ref (by decide) g0
  obtain ⟨x1, rfl, b1, d1⟩ := aG_int g1
  dsimp only at b1 d1
  obtain ⟨x2, rfl, b2, d2⟩ := aG_int g2
  dsimp only at b2 d2
  obtain ⟨x3, rfl, b3, d3⟩ := aG_int g3
  dsimp only at b3 d3
  obtain ⟨x4, rfl, b4, d4⟩ := aG_int g4
  dsimp only at b4 d4
  obtain ⟨x5, rfl, b5, d5⟩ := rG_ref (by decide) g5
  obtain ⟨m1, m2, m3, m4⟩ := hM0
  obtain ⟨T, hT⟩ := rTe_ex hH b0 d0
  obtain ⟨a0, c0, fs0, w0, e1, s0, t0, e4⟩ := m1 (0, 24, 5) (List.mem_of_getElem? (i := 0) rfl)
  obtain rfl : x0 = a0 := Sum.inl.inj (Option.some.inj (Sum.inr.inj (Sum.inr.inj (Option.some.inj (show some (rR x0) = some _ from e1)))))
  obtain rfl : rR x5 = w0 := Option.some.inj (show some (rR x5) = some w0 from e4)
  clear e1 e4
  obtain ⟨a, mc0, ty0, gc0, ic0, e1, sc0, jc0, e4, e5⟩ := m2 (5, ([(1, 1)], 0), 3) (List.mem_of_getElem? (i := 0) rfl)
  obtain rfl : x5 = a := Sum.inl.inj (Option.some.inj (Sum.inr.inj (Sum.inr.inj (Option.some.inj (show some (rR x5) = some _ from e1)))))
  obtain ⟨gc0, rfl⟩ : ∃ g, gc0 = .inl g := by
    rcases gc0 with g | g
    · exact ⟨g, rfl⟩
    · exact absurd (show some (rI x3) = some (.inr (.inl (g ic0))) from e5) (fun h => by cases h)
  have sc0 : σ x5 = .inl (ty0, mc0, .inl gc0) := sc0
  have ec0 : x3 = gc0 ic0 := Sum.inl.inj (Option.some.inj (show some (rI x3) = some _ from e5))
  have kc0 : (ic0 : Int) = (1 * x1.toInt + 0) + 0 := by
    obtain ⟨z, e6, e7⟩ := e4
    obtain rfl : (1 * x1.toInt + 0) = z := Option.some.inj (show some (1 * x1.toInt + 0) = some z from e6)
    exact e7
  clear e1 e4 e5
  have l0 : 0 ≤ (-1 * x2.toInt + (1 * x3.toInt + 0)) + -1 := by
    obtain ⟨z, e6, e7⟩ := m3 ([(2, -1), (3, 1)], -1) (List.mem_of_getElem? (i := 0) rfl)
    obtain rfl : (-1 * x2.toInt + (1 * x3.toInt + 0)) = z := Option.some.inj (show some (-1 * x2.toInt + (1 * x3.toInt + 0)) = some z from e6)
    exact e7
  have y0 : T x1.toInt = x3.toInt := rMg_c hT s0 t0 sc0 (by omega) (by omega) (by omega) ec0
  clear m1 m2 m3 m4
  have q0 : rB K n p 200 [rR x0, rI x1, rI x2, rI x4] σ := ro_200.mpr ⟨_, hT, by
    omega⟩
  exact ⟨p, fun _ => rfl, ⟨(fun q h => by cases h), fun q h => (by cases h), (fun f h => by cases h), (aAllc ⟨_, rfl, (rF_b (r := 3204) (by decide) rfl).mpr q0⟩ (fun f h => by cases h))⟩, [], List.mem_cons_self, fun f h => (by cases h)⟩
theorem rw_rwSD0 {K : Nat → Nat} {n : Nat} {JX : (Nat → jcell) → Prop} : aGho (rF K n) fa_T K n JX ag_rwSD0 := by
  refine aGho_of ⟨rfl, rfl⟩ ?_
  intro p σ ρ hH hX hA hM0
  have hG := aAG_of hA.1 (fun i e v he hv => (hA.2 i e v he hv).1)
  clear hA
  obtain ⟨v0, v1, v2, v3, rfl, g0, g1, g2, g3⟩ := rA_4 hG
  clear hG
  obtain ⟨x0, rfl, b0, d0⟩ := rG_ref (by decide) g0
  obtain ⟨x1, rfl, b1, d1⟩ := aG_int g1
  dsimp only at b1 d1
  obtain ⟨x2, rfl, b2, d2⟩ := aG_int g2
  dsimp only at b2 d2
  obtain ⟨x3, rfl, b3, d3⟩ := aG_int g3
  dsimp only at b3 d3
  obtain ⟨m1, m2, m3, m4⟩ := hM0
  obtain ⟨T, hT⟩ := rTe_ex hH b0 d0
  clear m1 m2 m3 m4
  have q0 : rB K n p 200 [rR x0, rI x1, rI x2, rI x3] σ := ro_200.mpr ⟨_, hT, by
    omega⟩
  exact ⟨p, fun _ => rfl, ⟨(fun q h => by cases h), fun q h => (by cases h), (fun f h => by cases h), (aAllc ⟨_, rfl, (rF_b (r := 3204) (by decide) rfl).mpr q0⟩ (fun f h => by cases h))⟩, [], List.mem_cons_self, fun f h => (by cases h)⟩
theorem rw_rwFL0 {K : Nat → Nat} {n : Nat} {JX : (Nat → jcell) → Prop} : aGho (rF K n) fa_T K n JX ag_rwFL0 := by
  refine aGho_of ⟨rfl, rfl⟩ ?_
  intro p σ ρ hH hX hA hM0
  have hG := aAG_of hA.1 (fun i e v he hv => (hA.2 i e v he hv).1)
  clear hA
  obtain ⟨v0, v1, v2, v3, v4, rfl, g0, g1, g2, g3, g4⟩ := rA_5 hG
  clear hG
  obtain ⟨x0, rfl, b0, d0⟩ := rG_ref (by decide) g0
  obtain ⟨x1, rfl, b1, d1⟩ := aG_int g1
  dsimp only at b1 d1
  obtain ⟨x2, rfl, b2, d2⟩ := aG_int g2
  dsimp only at b2 d2
  obtain ⟨x3, rfl, b3, d3⟩ := aG_int g3
  dsimp only at b3 d3
  obtain ⟨x4, rfl, b4, d4⟩ := aG_int g4
  dsimp only at b4 d4
  obtain ⟨m1, m2, m3, m4⟩ := hM0
  obtain ⟨T, hT⟩ := rTe_ex hH b0 d0
  have f0 : rB K n p 120 [rI x1, rI x2, rI x3, rI x4] σ := by
    obtain ⟨w, e6, e7⟩ := m4 (1924, [1, 2, 3, 4]) (List.mem_of_getElem? (i := 0) rfl)
    obtain rfl : [rI x1, rI x2, rI x3, rI x4] = w := Option.some.inj (show some [rI x1, rI x2, rI x3, rI x4] = some w from e6)
    exact (rF_b (r := 1924) (by decide) rfl).mp e7
  have f0 := ro_120.mp f0
  clear m1 m2 m3 m4
  have q0 : rB K n p 201 [rR x0, rI x1, rI x2, rI x3, rI x4] σ := ro_201.mpr ⟨_, hT, by
    intro m h
    rw [← f0]
    exact h⟩
  exact ⟨p, fun _ => rfl, ⟨(fun q h => by cases h), fun q h => (by cases h), (fun f h => by cases h), (aAllc ⟨_, rfl, (rF_b (r := 3221) (by decide) rfl).mpr q0⟩ (fun f h => by cases h))⟩, [], List.mem_cons_self, fun f h => (by cases h)⟩
theorem rw_rwFLz {K : Nat → Nat} {n : Nat} {JX : (Nat → jcell) → Prop} : aGho (rF K n) fa_T K n JX ag_rwFLz := by
  refine aGho_of ⟨rfl, rfl⟩ ?_
  intro p σ ρ hH hX hA hM0
  have hG := aAG_of hA.1 (fun i e v he hv => (hA.2 i e v he hv).1)
  clear hA
  obtain ⟨v0, v1, v2, v3, v4, v5, v6, rfl, g0, g1, g2, g3, g4, g5, g6⟩ := rA_7 hG
  clear hG
  obtain ⟨x0, rfl, b0, d0⟩ := rG_ref (by decide) g0
  obtain ⟨x1, rfl, b1, d1⟩ := aG_int g1
  dsimp only at b1 d1
  obtain ⟨x2, rfl, b2, d2⟩ := aG_int g2
  dsimp only at b2 d2
  obtain ⟨x3, rfl, b3, d3⟩ := aG_int g3
  dsimp only at b3 d3
  obtain ⟨x4, rfl, b4, d4⟩ := aG_int g4
  dsimp only at b4 d4
  obtain ⟨x5, rfl, b5, d5⟩ := aG_int g5
  dsimp only at b5 d5
  obtain ⟨x6, rfl, b6, d6⟩ := rG_ref (by decide) g6
  obtain ⟨m1, m2, m3, m4⟩ := hM0
  obtain ⟨T, hT⟩ := rTe_ex hH b0 d0
  obtain ⟨a0, c0, fs0, w0, e1, s0, t0, e4⟩ := m1 (0, 24, 6) (List.mem_of_getElem? (i := 0) rfl)
  obtain rfl : x0 = a0 := Sum.inl.inj (Option.some.inj (Sum.inr.inj (Sum.inr.inj (Option.some.inj (show some (rR x0) = some _ from e1)))))
  obtain rfl : rR x6 = w0 := Option.some.inj (show some (rR x6) = some w0 from e4)
  clear e1 e4
  obtain ⟨a, mc0, ty0, gc0, ic0, e1, sc0, jc0, e4, e5⟩ := m2 (6, ([(4, 1)], 0), 5) (List.mem_of_getElem? (i := 0) rfl)
  obtain rfl : x6 = a := Sum.inl.inj (Option.some.inj (Sum.inr.inj (Sum.inr.inj (Option.some.inj (show some (rR x6) = some _ from e1)))))
  obtain ⟨gc0, rfl⟩ : ∃ g, gc0 = .inl g := by
    rcases gc0 with g | g
    · exact ⟨g, rfl⟩
    · exact absurd (show some (rI x5) = some (.inr (.inl (g ic0))) from e5) (fun h => by cases h)
  have sc0 : σ x6 = .inl (ty0, mc0, .inl gc0) := sc0
  have ec0 : x5 = gc0 ic0 := Sum.inl.inj (Option.some.inj (show some (rI x5) = some _ from e5))
  have kc0 : (ic0 : Int) = (1 * x4.toInt + 0) + 0 := by
    obtain ⟨z, e6, e7⟩ := e4
    obtain rfl : (1 * x4.toInt + 0) = z := Option.some.inj (show some (1 * x4.toInt + 0) = some z from e6)
    exact e7
  clear e1 e4 e5
  have y0 : T x4.toInt = x5.toInt := rMg_c hT s0 t0 sc0 (by omega) (by omega) (by omega) ec0
  have f0 : rB K n p 201 [rR x0, rI x1, rI x2, rI x3, rI x4] σ := by
    obtain ⟨w, e6, e7⟩ := m4 (3221, [0, 1, 2, 3, 4]) (List.mem_of_getElem? (i := 0) rfl)
    obtain rfl : [rR x0, rI x1, rI x2, rI x3, rI x4] = w := Option.some.inj (show some [rR x0, rI x1, rI x2, rI x3, rI x4] = some w from e6)
    exact (rF_b (r := 3221) (by decide) rfl).mp e7
  obtain ⟨M9, h9, f0⟩ := ro_201.mp f0
  obtain rfl := rMg_u hT h9
  clear h9
  clear m1 m2 m3 m4
  have q0 : rB K n p 202 [rR x0, rI x1, rI x2, rI x3, rI x4] σ := ro_202.mpr ⟨_, hT, by
    intro m h
    exact f0 m (rGf_n (by omega) (by omega) h)⟩
  exact ⟨p, fun _ => rfl, ⟨(fun q h => by cases h), fun q h => (by cases h), (fun f h => by cases h), (aAllc ⟨_, rfl, (rF_b (r := 3237) (by decide) rfl).mpr q0⟩ (fun f h => by cases h))⟩, [], List.mem_cons_self, fun f h => (by cases h)⟩
theorem rw_rwFLn {K : Nat → Nat} {n : Nat} {JX : (Nat → jcell) → Prop} : aGho (rF K n) fa_T K n JX ag_rwFLn := by
  refine aGho_of ⟨rfl, rfl⟩ ?_
  intro p σ ρ hH hX hA hM0
  have hG := aAG_of hA.1 (fun i e v he hv => (hA.2 i e v he hv).1)
  clear hA
  obtain ⟨v0, v1, v2, v3, v4, v5, rfl, g0, g1, g2, g3, g4, g5⟩ := rA_6 hG
  clear hG
  obtain ⟨x0, rfl, b0, d0⟩ := rG_ref (by decide) g0
  obtain ⟨x1, rfl, b1, d1⟩ := aG_int g1
  dsimp only at b1 d1
  obtain ⟨x2, rfl, b2, d2⟩ := aG_int g2
  dsimp only at b2 d2
  obtain ⟨x3, rfl, b3, d3⟩ := aG_int g3
  dsimp only at b3 d3
  obtain ⟨x4, rfl, b4, d4⟩ := aG_int g4
  dsimp only at b4 d4
  obtain ⟨x5, rfl, b5, d5⟩ := aG_int g5
  dsimp only at b5 d5
  obtain ⟨m1, m2, m3, m4⟩ := hM0
  obtain ⟨T, hT⟩ := rTe_ex hH b0 d0
  have f0 : rB K n p 202 [rR x0, rI x1, rI x2, rI x3, rI x4] σ := by
    obtain ⟨w, e6, e7⟩ := m4 (3237, [0, 1, 2, 3, 4]) (List.mem_of_getElem? (i := 0) rfl)
    obtain rfl : [rR x0, rI x1, rI x2, rI x3, rI x4] = w := Option.some.inj (show some [rR x0, rI x1, rI x2, rI x3, rI x4] = some w from e6)
    exact (rF_b (r := 3237) (by decide) rfl).mp e7
  obtain ⟨M9, h9, f0⟩ := ro_202.mp f0
  obtain rfl := rMg_u hT h9
  clear h9
  have f1 : rB K n p 120 [rI x4, rI x2, rI x3, rI x5] σ := by
    obtain ⟨w, e6, e7⟩ := m4 (1924, [4, 2, 3, 5]) (List.mem_of_getElem? (i := 1) rfl)
    obtain rfl : [rI x4, rI x2, rI x3, rI x5] = w := Option.some.inj (show some [rI x4, rI x2, rI x3, rI x5] = some w from e6)
    exact (rF_b (r := 1924) (by decide) rfl).mp e7
  have f1 := ro_120.mp f1
  clear m1 m2 m3 m4
  have q0 : rB K n p 201 [rR x0, rI x1, rI x2, rI x3, rI x5] σ := ro_201.mpr ⟨_, hT, by
    intro m h
    rw [f1] at h
    exact f0 m h⟩
  exact ⟨p, fun _ => rfl, ⟨(fun q h => by cases h), fun q h => (by cases h), (fun f h => by cases h), (aAllc ⟨_, rfl, (rF_b (r := 3221) (by decide) rfl).mpr q0⟩ (fun f h => by cases h))⟩, [], List.mem_cons_self, fun f h => (by cases h)⟩
theorem rw_rwFE0 {K : Nat → Nat} {n : Nat} {JX : (Nat → jcell) → Prop} : aGho (rF K n) fa_T K n JX ag_rwFE0 := by
  refine aGho_of ⟨rfl, rfl⟩ ?_
  intro p σ ρ hH hX hA hM0
  have hG := aAG_of hA.1 (fun i e v he hv => (hA.2 i e v he hv).1)
  clear hA
  obtain ⟨v0, v1, v2, v3, v4, v5, rfl, g0, g1, g2, g3, g4, g5⟩ := rA_6 hG
  clear hG
  obtain ⟨x0, rfl, b0, d0⟩ := rG_ref (by decide) g0
  obtain ⟨x1, rfl, b1, d1⟩ := aG_int g1
  dsimp only at b1 d1
  obtain ⟨x2, rfl, b2, d2⟩ := aG_int g2
  dsimp only at b2 d2
  obtain ⟨x3, rfl, b3, d3⟩ := aG_int g3
  dsimp only at b3 d3
  obtain ⟨x4, rfl, b4, d4⟩ := aG_int g4
  dsimp only at b4 d4
  obtain ⟨x5, rfl, b5, d5⟩ := aG_int g5
  dsimp only at b5 d5
  obtain ⟨m1, m2, m3, m4⟩ := hM0
  obtain ⟨T, hT⟩ := rTe_ex hH b0 d0
  have f0 : rB K n p 201 [rR x0, rI x1, rI x2, rI x3, rI x4] σ := by
    obtain ⟨w, e6, e7⟩ := m4 (3221, [0, 1, 2, 3, 4]) (List.mem_of_getElem? (i := 0) rfl)
    obtain rfl : [rR x0, rI x1, rI x2, rI x3, rI x4] = w := Option.some.inj (show some [rR x0, rI x1, rI x2, rI x3, rI x4] = some w from e6)
    exact (rF_b (r := 3221) (by decide) rfl).mp e7
  obtain ⟨M9, h9, f0⟩ := ro_201.mp f0
  obtain rfl := rMg_u hT h9
  clear h9
  clear m1 m2 m3 m4
  have q0 : rB K n p 203 [rR x0, rI x1, rI x2, rI x3, rI x5] σ := ro_203.mpr ⟨_, hT, by
    have h := f0 0 (rGf_o (by omega))
    rw [show x5.toInt = 0 by omega]
    exact h⟩
  exact ⟨p, fun _ => rfl, ⟨(fun q h => by cases h), fun q h => (by cases h), (fun f h => by cases h), (aAllc ⟨_, rfl, (rF_b (r := 3253) (by decide) rfl).mpr q0⟩ (fun f h => by cases h))⟩, [], List.mem_cons_self, fun f h => (by cases h)⟩
theorem rw_rwFE1 {K : Nat → Nat} {n : Nat} {JX : (Nat → jcell) → Prop} : aGho (rF K n) fa_T K n JX ag_rwFE1 := by
  refine aGho_of ⟨rfl, rfl⟩ ?_
  intro p σ ρ hH hX hA hM0
  have hG := aAG_of hA.1 (fun i e v he hv => (hA.2 i e v he hv).1)
  clear hA
  obtain ⟨v0, v1, v2, v3, v4, v5, v6, rfl, g0, g1, g2, g3, g4, g5, g6⟩ := rA_7 hG
  clear hG
  obtain ⟨x0, rfl, b0, d0⟩ := rG_ref (by decide) g0
  obtain ⟨x1, rfl, b1, d1⟩ := aG_int g1
  dsimp only at b1 d1
  obtain ⟨x2, rfl, b2, d2⟩ := aG_int g2
  dsimp only at b2 d2
  obtain ⟨x3, rfl, b3, d3⟩ := aG_int g3
  dsimp only at b3 d3
  obtain ⟨x4, rfl, b4, d4⟩ := aG_int g4
  dsimp only at b4 d4
  obtain ⟨x5, rfl, b5, d5⟩ := aG_int g5
  dsimp only at b5 d5
  obtain ⟨x6, rfl, b6, d6⟩ := rG_ref (by decide) g6
  obtain ⟨m1, m2, m3, m4⟩ := hM0
  obtain ⟨T, hT⟩ := rTe_ex hH b0 d0
  obtain ⟨a0, c0, fs0, w0, e1, s0, t0, e4⟩ := m1 (0, 24, 6) (List.mem_of_getElem? (i := 0) rfl)
  obtain rfl : x0 = a0 := Sum.inl.inj (Option.some.inj (Sum.inr.inj (Sum.inr.inj (Option.some.inj (show some (rR x0) = some _ from e1)))))
  obtain rfl : rR x6 = w0 := Option.some.inj (show some (rR x6) = some w0 from e4)
  clear e1 e4
  obtain ⟨a, mc0, ty0, gc0, ic0, e1, sc0, jc0, e4, e5⟩ := m2 (6, ([(4, 1)], 0), 5) (List.mem_of_getElem? (i := 0) rfl)
  obtain rfl : x6 = a := Sum.inl.inj (Option.some.inj (Sum.inr.inj (Sum.inr.inj (Option.some.inj (show some (rR x6) = some _ from e1)))))
  obtain ⟨gc0, rfl⟩ : ∃ g, gc0 = .inl g := by
    rcases gc0 with g | g
    · exact ⟨g, rfl⟩
    · exact absurd (show some (rI x5) = some (.inr (.inl (g ic0))) from e5) (fun h => by cases h)
  have sc0 : σ x6 = .inl (ty0, mc0, .inl gc0) := sc0
  have ec0 : x5 = gc0 ic0 := Sum.inl.inj (Option.some.inj (show some (rI x5) = some _ from e5))
  have kc0 : (ic0 : Int) = (1 * x4.toInt + 0) + 0 := by
    obtain ⟨z, e6, e7⟩ := e4
    obtain rfl : (1 * x4.toInt + 0) = z := Option.some.inj (show some (1 * x4.toInt + 0) = some z from e6)
    exact e7
  clear e1 e4 e5
  have y0 : T x4.toInt = x5.toInt := rMg_c hT s0 t0 sc0 (by omega) (by omega) (by omega) ec0
  have f0 : rB K n p 201 [rR x0, rI x1, rI x2, rI x3, rI x4] σ := by
    obtain ⟨w, e6, e7⟩ := m4 (3221, [0, 1, 2, 3, 4]) (List.mem_of_getElem? (i := 0) rfl)
    obtain rfl : [rR x0, rI x1, rI x2, rI x3, rI x4] = w := Option.some.inj (show some [rR x0, rI x1, rI x2, rI x3, rI x4] = some w from e6)
    exact (rF_b (r := 3221) (by decide) rfl).mp e7
  obtain ⟨M9, h9, f0⟩ := ro_201.mp f0
  obtain rfl := rMg_u hT h9
  clear h9
  clear m1 m2 m3 m4
  have q0 : rB K n p 203 [rR x0, rI x1, rI x2, rI x3, rI x5] σ := ro_203.mpr ⟨_, hT, by
    exact f0 _ (rGf_s (by omega) y0 (by omega))⟩
  exact ⟨p, fun _ => rfl, ⟨(fun q h => by cases h), fun q h => (by cases h), (fun f h => by cases h), (aAllc ⟨_, rfl, (rF_b (r := 3253) (by decide) rfl).mpr q0⟩ (fun f h => by cases h))⟩, [], List.mem_cons_self, fun f h => (by cases h)⟩
theorem rw_rwP1n {K : Nat → Nat} {n : Nat} {JX : (Nat → jcell) → Prop} : aGho (rF K n) fa_T K n JX ag_rwP1n := by
  refine aGho_of ⟨rfl, rfl⟩ ?_
  intro p σ ρ hH hX hA hM0
  have hG := aAG_of hA.1 (fun i e v he hv => (hA.2 i e v he hv).1)
  clear hA
  obtain ⟨v0, v1, v2, v3, v4, v5, v6, v7, v8, rfl, g0, g1, g2, g3, g4, g5, g6, g7, g8⟩ := rA_9 hG
  clear hG
  obtain ⟨x0, rfl, b0, d0⟩ := rG_ref (by decide) g0
  obtain ⟨x1, rfl, b1, d1⟩ := aG_int g1
  dsimp only at b1 d1
  obtain ⟨x2, rfl, b2, d2⟩ := aG_int g2
  dsimp only at b2 d2
  obtain ⟨x3, rfl, b3, d3⟩ := aG_int g3
  dsimp only at b3 d3
  obtain ⟨x4, rfl, b4, d4⟩ := aG_int g4
  dsimp only at b4 d4
  obtain ⟨x5, rfl, b5, d5⟩ := aG_int g5
  dsimp only at b5 d5
  obtain ⟨x6, rfl, b6, d6⟩ := aG_int g6
  dsimp only at b6 d6
  obtain ⟨x7, rfl, b7, d7⟩ := aG_int g7
  dsimp only at b7 d7
  obtain ⟨x8, rfl, b8, d8⟩ := aG_int g8
  dsimp only at b8 d8
  obtain ⟨m1, m2, m3, m4⟩ := hM0
  obtain ⟨T, hT⟩ := rTe_ex hH b0 d0
  have l0 : 0 ≤ (1 * x3.toInt + (-8 * x2.toInt + 0)) + 0 := by
    obtain ⟨z, e6, e7⟩ := m3 ([(3, 1), (2, -8)], 0) (List.mem_of_getElem? (i := 0) rfl)
    obtain rfl : (1 * x3.toInt + (-8 * x2.toInt + 0)) = z := Option.some.inj (show some (1 * x3.toInt + (-8 * x2.toInt + 0)) = some z from e6)
    exact e7
  have l1 : 0 ≤ (-1 * x3.toInt + (8 * x2.toInt + 0)) + 0 := by
    obtain ⟨z, e6, e7⟩ := m3 ([(3, -1), (2, 8)], 0) (List.mem_of_getElem? (i := 1) rfl)
    obtain rfl : (-1 * x3.toInt + (8 * x2.toInt + 0)) = z := Option.some.inj (show some (-1 * x3.toInt + (8 * x2.toInt + 0)) = some z from e6)
    exact e7
  have l2 : 0 ≤ (1 * x5.toInt + (-2 * x2.toInt + 0)) + 1 := by
    obtain ⟨z, e6, e7⟩ := m3 ([(5, 1), (2, -2)], 1) (List.mem_of_getElem? (i := 2) rfl)
    obtain rfl : (1 * x5.toInt + (-2 * x2.toInt + 0)) = z := Option.some.inj (show some (1 * x5.toInt + (-2 * x2.toInt + 0)) = some z from e6)
    exact e7
  have l3 : 0 ≤ (-1 * x5.toInt + (2 * x2.toInt + 0)) + -1 := by
    obtain ⟨z, e6, e7⟩ := m3 ([(5, -1), (2, 2)], -1) (List.mem_of_getElem? (i := 3) rfl)
    obtain rfl : (-1 * x5.toInt + (2 * x2.toInt + 0)) = z := Option.some.inj (show some (-1 * x5.toInt + (2 * x2.toInt + 0)) = some z from e6)
    exact e7
  have l4 : 0 ≤ (1 * x7.toInt + (-1 * x3.toInt + 0)) + -1 := by
    obtain ⟨z, e6, e7⟩ := m3 ([(7, 1), (3, -1)], -1) (List.mem_of_getElem? (i := 4) rfl)
    obtain rfl : (1 * x7.toInt + (-1 * x3.toInt + 0)) = z := Option.some.inj (show some (1 * x7.toInt + (-1 * x3.toInt + 0)) = some z from e6)
    exact e7
  have l5 : 0 ≤ (-1 * x7.toInt + (1 * x3.toInt + 0)) + 1 := by
    obtain ⟨z, e6, e7⟩ := m3 ([(7, -1), (3, 1)], 1) (List.mem_of_getElem? (i := 5) rfl)
    obtain rfl : (-1 * x7.toInt + (1 * x3.toInt + 0)) = z := Option.some.inj (show some (-1 * x7.toInt + (1 * x3.toInt + 0)) = some z from e6)
    exact e7
  have f0 : rB K n p 120 [rI x1, rI x4, rI x5, rI x6] σ := by
    obtain ⟨w, e6, e7⟩ := m4 (1924, [1, 4, 5, 6]) (List.mem_of_getElem? (i := 0) rfl)
    obtain rfl : [rI x1, rI x4, rI x5, rI x6] = w := Option.some.inj (show some [rI x1, rI x4, rI x5, rI x6] = some w from e6)
    exact (rF_b (r := 1924) (by decide) rfl).mp e7
  have f0 := ro_120.mp f0
  have f1 : rB K n p 200 [rR x0, rI x6, rI x7, rI x8] σ := by
    obtain ⟨w, e6, e7⟩ := m4 (3204, [0, 6, 7, 8]) (List.mem_of_getElem? (i := 1) rfl)
    obtain rfl : [rR x0, rI x6, rI x7, rI x8] = w := Option.some.inj (show some [rR x0, rI x6, rI x7, rI x8] = some w from e6)
    exact (rF_b (r := 3204) (by decide) rfl).mp e7
  obtain ⟨M9, h9, f1⟩ := ro_200.mp f1
  obtain rfl := rMg_u hT h9
  clear h9
  clear m1 m2 m3 m4
  have q0 : rB K n p 205 [rR x0, rI x1, rI x2] σ := ro_205.mpr ⟨_, hT, by
    have e : rSp x1.toInt (-1) (2 * x2.toInt - 1) = x6.toInt := by rw [f0, show x4.toInt = -1 by omega, show x5.toInt = 2 * x2.toInt - 1 by omega]
    have hn : ¬ rP1 T x1.toInt x2.toInt (-1) := by
      unfold rP1
      rw [e]
      omega
    exact hn⟩
  exact ⟨p, fun _ => rfl, ⟨(fun q h => by cases h), fun q h => (by cases h), (fun f h => by cases h), (aAllc ⟨_, rfl, (rF_b (r := 3283) (by decide) rfl).mpr q0⟩ (fun f h => by cases h))⟩, [], List.mem_cons_self, fun f h => (by cases h)⟩
theorem rw_rwP0 {K : Nat → Nat} {n : Nat} {JX : (Nat → jcell) → Prop} : aGho (rF K n) fa_T K n JX ag_rwP0 := by
  refine aGho_of ⟨rfl, rfl⟩ ?_
  intro p σ ρ hH hX hA hM0
  have hG := aAG_of hA.1 (fun i e v he hv => (hA.2 i e v he hv).1)
  clear hA
  obtain ⟨v0, v1, v2, v3, v4, v5, v6, v7, v8, v9, rfl, g0, g1, g2, g3, g4, g5, g6, g7, g8, g9⟩ := rA_10 hG
  clear hG
  obtain ⟨x0, rfl, b0, d0⟩ := rG_ref (by decide) g0
  obtain ⟨x1, rfl, b1, d1⟩ := aG_int g1
  dsimp only at b1 d1
  obtain ⟨x2, rfl, b2, d2⟩ := aG_int g2
  dsimp only at b2 d2
  obtain ⟨x3, rfl, b3, d3⟩ := aG_int g3
  dsimp only at b3 d3
  obtain ⟨x4, rfl, b4, d4⟩ := aG_int g4
  dsimp only at b4 d4
  obtain ⟨x5, rfl, b5, d5⟩ := aG_int g5
  dsimp only at b5 d5
  obtain ⟨x6, rfl, b6, d6⟩ := aG_int g6
  dsimp only at b6 d6
  obtain ⟨x7, rfl, b7, d7⟩ := aG_int g7
  dsimp only at b7 d7
  obtain ⟨x8, rfl, b8, d8⟩ := aG_int g8
  dsimp only at b8 d8
  obtain ⟨x9, rfl, b9, d9⟩ := aG_int g9
  dsimp only at b9 d9
  obtain ⟨m1, m2, m3, m4⟩ := hM0
  obtain ⟨T, hT⟩ := rTe_ex hH b0 d0
  have l0 : 0 ≤ (1 * x3.toInt + (-8 * x2.toInt + 0)) + 0 := by
    obtain ⟨z, e6, e7⟩ := m3 ([(3, 1), (2, -8)], 0) (List.mem_of_getElem? (i := 0) rfl)
    obtain rfl : (1 * x3.toInt + (-8 * x2.toInt + 0)) = z := Option.some.inj (show some (1 * x3.toInt + (-8 * x2.toInt + 0)) = some z from e6)
    exact e7
  have l1 : 0 ≤ (-1 * x3.toInt + (8 * x2.toInt + 0)) + 0 := by
    obtain ⟨z, e6, e7⟩ := m3 ([(3, -1), (2, 8)], 0) (List.mem_of_getElem? (i := 1) rfl)
    obtain rfl : (-1 * x3.toInt + (8 * x2.toInt + 0)) = z := Option.some.inj (show some (-1 * x3.toInt + (8 * x2.toInt + 0)) = some z from e6)
    exact e7
  have l2 : 0 ≤ (1 * x5.toInt + (-2 * x2.toInt + 0)) + 1 := by
    obtain ⟨z, e6, e7⟩ := m3 ([(5, 1), (2, -2)], 1) (List.mem_of_getElem? (i := 2) rfl)
    obtain rfl : (1 * x5.toInt + (-2 * x2.toInt + 0)) = z := Option.some.inj (show some (1 * x5.toInt + (-2 * x2.toInt + 0)) = some z from e6)
    exact e7
  have l3 : 0 ≤ (-1 * x5.toInt + (2 * x2.toInt + 0)) + -1 := by
    obtain ⟨z, e6, e7⟩ := m3 ([(5, -1), (2, 2)], -1) (List.mem_of_getElem? (i := 3) rfl)
    obtain rfl : (-1 * x5.toInt + (2 * x2.toInt + 0)) = z := Option.some.inj (show some (-1 * x5.toInt + (2 * x2.toInt + 0)) = some z from e6)
    exact e7
  have l4 : 0 ≤ (1 * x7.toInt + (-1 * x3.toInt + 0)) + -1 := by
    obtain ⟨z, e6, e7⟩ := m3 ([(7, 1), (3, -1)], -1) (List.mem_of_getElem? (i := 4) rfl)
    obtain rfl : (1 * x7.toInt + (-1 * x3.toInt + 0)) = z := Option.some.inj (show some (1 * x7.toInt + (-1 * x3.toInt + 0)) = some z from e6)
    exact e7
  have l5 : 0 ≤ (-1 * x7.toInt + (1 * x3.toInt + 0)) + 1 := by
    obtain ⟨z, e6, e7⟩ := m3 ([(7, -1), (3, 1)], 1) (List.mem_of_getElem? (i := 5) rfl)
    obtain rfl : (-1 * x7.toInt + (1 * x3.toInt + 0)) = z := Option.some.inj (show some (-1 * x7.toInt + (1 * x3.toInt + 0)) = some z from e6)
    exact e7
  have f0 : rB K n p 120 [rI x1, rI x4, rI x5, rI x6] σ := by
    obtain ⟨w, e6, e7⟩ := m4 (1924, [1, 4, 5, 6]) (List.mem_of_getElem? (i := 0) rfl)
    obtain rfl : [rI x1, rI x4, rI x5, rI x6] = w := Option.some.inj (show some [rI x1, rI x4, rI x5, rI x6] = some w from e6)
    exact (rF_b (r := 1924) (by decide) rfl).mp e7
  have f0 := ro_120.mp f0
  have f1 : rB K n p 200 [rR x0, rI x6, rI x7, rI x8] σ := by
    obtain ⟨w, e6, e7⟩ := m4 (3204, [0, 6, 7, 8]) (List.mem_of_getElem? (i := 1) rfl)
    obtain rfl : [rR x0, rI x6, rI x7, rI x8] = w := Option.some.inj (show some [rR x0, rI x6, rI x7, rI x8] = some w from e6)
    exact (rF_b (r := 3204) (by decide) rfl).mp e7
  obtain ⟨M9, h9, f1⟩ := ro_200.mp f1
  obtain rfl := rMg_u hT h9
  clear h9
  have f2 : rB K n p 205 [rR x0, rI x1, rI x2] σ := by
    obtain ⟨w, e6, e7⟩ := m4 (3283, [0, 1, 2]) (List.mem_of_getElem? (i := 2) rfl)
    obtain rfl : [rR x0, rI x1, rI x2] = w := Option.some.inj (show some [rR x0, rI x1, rI x2] = some w from e6)
    exact (rF_b (r := 3283) (by decide) rfl).mp e7
  obtain ⟨M9, h9, f2⟩ := ro_205.mp f2
  obtain rfl := rMg_u hT h9
  clear h9
  clear m1 m2 m3 m4
  have q0 : rB K n p 206 [rR x0, rI x1, rI x2, rI x9] σ := ro_206.mpr ⟨_, hT, by
    have e : rSp x1.toInt (1) (2 * x2.toInt - 1) = x6.toInt := by rw [f0, show x4.toInt = 1 by omega, show x5.toInt = 2 * x2.toInt - 1 by omega]
    have hn : ¬ rP1 T x1.toInt x2.toInt (1) := by
      unfold rP1
      rw [e]
      omega
    intro _
    exact ⟨f2, hn⟩⟩
  exact ⟨p, fun _ => rfl, ⟨(fun q h => by cases h), fun q h => (by cases h), (fun f h => by cases h), (aAllc ⟨_, rfl, (rF_b (r := 3300) (by decide) rfl).mpr q0⟩ (fun f h => by cases h))⟩, [], List.mem_cons_self, fun f h => (by cases h)⟩
theorem rw_rwP1 {K : Nat → Nat} {n : Nat} {JX : (Nat → jcell) → Prop} : aGho (rF K n) fa_T K n JX ag_rwP1 := by
  refine aGho_of ⟨rfl, rfl⟩ ?_
  intro p σ ρ hH hX hA hM0
  have hG := aAG_of hA.1 (fun i e v he hv => (hA.2 i e v he hv).1)
  clear hA
  obtain ⟨v0, v1, v2, v3, rfl, g0, g1, g2, g3⟩ := rA_4 hG
  clear hG
  obtain ⟨x0, rfl, b0, d0⟩ := rG_ref (by decide) g0
  obtain ⟨x1, rfl, b1, d1⟩ := aG_int g1
  dsimp only at b1 d1
  obtain ⟨x2, rfl, b2, d2⟩ := aG_int g2
  dsimp only at b2 d2
  obtain ⟨x3, rfl, b3, d3⟩ := aG_int g3
  dsimp only at b3 d3
  obtain ⟨m1, m2, m3, m4⟩ := hM0
  obtain ⟨T, hT⟩ := rTe_ex hH b0 d0
  clear m1 m2 m3 m4
  have q0 : rB K n p 206 [rR x0, rI x1, rI x2, rI x3] σ := ro_206.mpr ⟨_, hT, by
    intro h
    omega⟩
  exact ⟨p, fun _ => rfl, ⟨(fun q h => by cases h), fun q h => (by cases h), (fun f h => by cases h), (aAllc ⟨_, rfl, (rF_b (r := 3300) (by decide) rfl).mpr q0⟩ (fun f h => by cases h))⟩, [], List.mem_cons_self, fun f h => (by cases h)⟩
theorem rw_rwAo0 {K : Nat → Nat} {n : Nat} {JX : (Nat → jcell) → Prop} : aGho (rF K n) fa_T K n JX ag_rwAo0 := by
  refine aGho_of ⟨rfl, rfl⟩ ?_
  intro p σ ρ hH hX hA hM0
  have hG := aAG_of hA.1 (fun i e v he hv => (hA.2 i e v he hv).1)
  clear hA
  obtain ⟨v0, v1, v2, v3, v4, rfl, g0, g1, g2, g3, g4⟩ := rA_5 hG
  clear hG
  obtain ⟨x0, rfl, b0, d0⟩ := rG_ref (by decide) g0
  obtain ⟨x1, rfl, b1, d1⟩ := aG_int g1
  dsimp only at b1 d1
  obtain ⟨x2, rfl, b2, d2⟩ := aG_int g2
  dsimp only at b2 d2
  obtain ⟨x3, rfl, b3, d3⟩ := aG_int g3
  dsimp only at b3 d3
  obtain ⟨x4, rfl, b4, d4⟩ := aG_int g4
  dsimp only at b4 d4
  obtain ⟨m1, m2, m3, m4⟩ := hM0
  obtain ⟨T, hT⟩ := rTe_ex hH b0 d0
  have f0 : rB K n p 206 [rR x0, rI x1, rI x2, rI x4] σ := by
    obtain ⟨w, e6, e7⟩ := m4 (3300, [0, 1, 2, 4]) (List.mem_of_getElem? (i := 0) rfl)
    obtain rfl : [rR x0, rI x1, rI x2, rI x4] = w := Option.some.inj (show some [rR x0, rI x1, rI x2, rI x4] = some w from e6)
    exact (rF_b (r := 3300) (by decide) rfl).mp e7
  obtain ⟨M9, h9, f0⟩ := ro_206.mp f0
  obtain rfl := rMg_u hT h9
  clear h9
  clear m1 m2 m3 m4
  have q0 : rB K n p 207 [rR x0, rI x1, rI x2, rI x3, rI x4] σ := ro_207.mpr ⟨_, hT, by
    intro h
    exact ⟨(f0 h).1, (f0 h).2, fun f r h1 h2 => absurd h2 (by omega)⟩⟩
  exact ⟨p, fun _ => rfl, ⟨(fun q h => by cases h), fun q h => (by cases h), (fun f h => by cases h), (aAllc ⟨_, rfl, (rF_b (r := 3317) (by decide) rfl).mpr q0⟩ (fun f h => by cases h))⟩, [], List.mem_cons_self, fun f h => (by cases h)⟩
theorem rw_rwA0 {K : Nat → Nat} {n : Nat} {JX : (Nat → jcell) → Prop} : aGho (rF K n) fa_T K n JX ag_rwA0 := by
  refine aGho_of ⟨rfl, rfl⟩ ?_
  intro p σ ρ hH hX hA hM0
  have hG := aAG_of hA.1 (fun i e v he hv => (hA.2 i e v he hv).1)
  clear hA
  obtain ⟨v0, v1, v2, v3, v4, v5, rfl, g0, g1, g2, g3, g4, g5⟩ := rA_6 hG
  clear hG
  obtain ⟨x0, rfl, b0, d0⟩ := rG_ref (by decide) g0
  obtain ⟨x1, rfl, b1, d1⟩ := aG_int g1
  dsimp only at b1 d1
  obtain ⟨x2, rfl, b2, d2⟩ := aG_int g2
  dsimp only at b2 d2
  obtain ⟨x3, rfl, b3, d3⟩ := aG_int g3
  dsimp only at b3 d3
  obtain ⟨x4, rfl, b4, d4⟩ := aG_int g4
  dsimp only at b4 d4
  obtain ⟨x5, rfl, b5, d5⟩ := aG_int g5
  dsimp only at b5 d5
  obtain ⟨m1, m2, m3, m4⟩ := hM0
  obtain ⟨T, hT⟩ := rTe_ex hH b0 d0
  have f0 : rB K n p 207 [rR x0, rI x1, rI x2, rI x3, rI x5] σ := by
    obtain ⟨w, e6, e7⟩ := m4 (3317, [0, 1, 2, 3, 5]) (List.mem_of_getElem? (i := 0) rfl)
    obtain rfl : [rR x0, rI x1, rI x2, rI x3, rI x5] = w := Option.some.inj (show some [rR x0, rI x1, rI x2, rI x3, rI x5] = some w from e6)
    exact (rF_b (r := 3317) (by decide) rfl).mp e7
  obtain ⟨M9, h9, f0⟩ := ro_207.mp f0
  obtain rfl := rMg_u hT h9
  clear h9
  clear m1 m2 m3 m4
  have q0 : rB K n p 208 [rR x0, rI x1, rI x2, rI x3, rI x4, rI x5] σ := ro_208.mpr ⟨_, hT, by
    intro h
    exact ⟨(f0 h).1, (f0 h).2.1, (f0 h).2.2, fun r h1 h2 => absurd h2 (by omega)⟩⟩
  exact ⟨p, fun _ => rfl, ⟨(fun q h => by cases h), fun q h => (by cases h), (fun f h => by cases h), (aAllc ⟨_, rfl, (rF_b (r := 3334) (by decide) rfl).mpr q0⟩ (fun f h => by cases h))⟩, [], List.mem_cons_self, fun f h => (by cases h)⟩
theorem rw_rwB1 {K : Nat → Nat} {n : Nat} {JX : (Nat → jcell) → Prop} : aGho (rF K n) fa_T K n JX ag_rwB1 := by
  refine aGho_of ⟨rfl, rfl⟩ ?_
  intro p σ ρ hH hX hA hM0
  have hG := aAG_of hA.1 (fun i e v he hv => (hA.2 i e v he hv).1)
  clear hA
  obtain ⟨v0, v1, v2, v3, v4, v5, rfl, g0, g1, g2, g3, g4, g5⟩ := rA_6 hG
  clear hG
  obtain ⟨x0, rfl, b0, d0⟩ := rG_ref (by decide) g0
  obtain ⟨x1, rfl, b1, d1⟩ := aG_int g1
  dsimp only at b1 d1
  obtain ⟨x2, rfl, b2, d2⟩ := aG_int g2
  dsimp only at b2 d2
  obtain ⟨x3, rfl, b3, d3⟩ := aG_int g3
  dsimp only at b3 d3
  obtain ⟨x4, rfl, b4, d4⟩ := aG_int g4
  dsimp only at b4 d4
  obtain ⟨x5, rfl, b5, d5⟩ := aG_int g5
  dsimp only at b5 d5
  obtain ⟨m1, m2, m3, m4⟩ := hM0
  obtain ⟨T, hT⟩ := rTe_ex hH b0 d0
  clear m1 m2 m3 m4
  have q0 : rB K n p 209 [rR x0, rI x1, rI x2, rI x3, rI x4, rI x5] σ := ro_209.mpr ⟨_, hT, by
    intro h
    omega⟩
  exact ⟨p, fun _ => rfl, ⟨(fun q h => by cases h), fun q h => (by cases h), (fun f h => by cases h), (aAllc ⟨_, rfl, (rF_b (r := 3350) (by decide) rfl).mpr q0⟩ (fun f h => by cases h))⟩, [], List.mem_cons_self, fun f h => (by cases h)⟩
theorem rw_rwB5 {K : Nat → Nat} {n : Nat} {JX : (Nat → jcell) → Prop} : aGho (rF K n) fa_T K n JX ag_rwB5 := by
  refine aGho_of ⟨rfl, rfl⟩ ?_
  intro p σ ρ hH hX hA hM0
  have hG := aAG_of hA.1 (fun i e v he hv => (hA.2 i e v he hv).1)
  clear hA
  obtain ⟨v0, v1, v2, v3, v4, v5, v6, v7, v8, v9, v10, v11, rfl, g0, g1, g2, g3, g4, g5, g6, g7, g8, g9, g10, g11⟩ := rA_12 hG
  clear hG
  obtain ⟨x0, rfl, b0, d0⟩ := rG_ref (by decide) g0
  obtain ⟨x1, rfl, b1, d1⟩ := aG_int g1
  dsimp only at b1 d1
  obtain ⟨x2, rfl, b2, d2⟩ := aG_int g2
  dsimp only at b2 d2
  obtain ⟨x3, rfl, b3, d3⟩ := aG_int g3
  dsimp only at b3 d3
  obtain ⟨x4, rfl, b4, d4⟩ := aG_int g4
  dsimp only at b4 d4
  obtain ⟨x5, rfl, b5, d5⟩ := aG_int g5
  dsimp only at b5 d5
  obtain ⟨x6, rfl, b6, d6⟩ := aG_int g6
  dsimp only at b6 d6
  obtain ⟨x7, rfl, b7, d7⟩ := aG_int g7
  dsimp only at b7 d7
  obtain ⟨x8, rfl, b8, d8⟩ := aG_int g8
  dsimp only at b8 d8
  obtain ⟨x9, rfl, b9, d9⟩ := aG_int g9
  dsimp only at b9 d9
  obtain ⟨x10, rfl, b10, d10⟩ := aG_int g10
  dsimp only at b10 d10
  obtain ⟨x11, rfl, b11, d11⟩ := aG_int g11
  dsimp only at b11 d11
  obtain ⟨m1, m2, m3, m4⟩ := hM0
  obtain ⟨T, hT⟩ := rTe_ex hH b0 d0
  have l0 : 0 ≤ (1 * x7.toInt + (-8 * x2.toInt + 0)) + 0 := by
    obtain ⟨z, e6, e7⟩ := m3 ([(7, 1), (2, -8)], 0) (List.mem_of_getElem? (i := 0) rfl)
    obtain rfl : (1 * x7.toInt + (-8 * x2.toInt + 0)) = z := Option.some.inj (show some (1 * x7.toInt + (-8 * x2.toInt + 0)) = some z from e6)
    exact e7
  have l1 : 0 ≤ (-1 * x7.toInt + (8 * x2.toInt + 0)) + 0 := by
    obtain ⟨z, e6, e7⟩ := m3 ([(7, -1), (2, 8)], 0) (List.mem_of_getElem? (i := 1) rfl)
    obtain rfl : (-1 * x7.toInt + (8 * x2.toInt + 0)) = z := Option.some.inj (show some (-1 * x7.toInt + (8 * x2.toInt + 0)) = some z from e6)
    exact e7
  have l2 : 0 ≤ (1 * x9.toInt + (-1 * x7.toInt + 0)) + -2 := by
    obtain ⟨z, e6, e7⟩ := m3 ([(9, 1), (7, -1)], -2) (List.mem_of_getElem? (i := 2) rfl)
    obtain rfl : (1 * x9.toInt + (-1 * x7.toInt + 0)) = z := Option.some.inj (show some (1 * x9.toInt + (-1 * x7.toInt + 0)) = some z from e6)
    exact e7
  have l3 : 0 ≤ (-1 * x9.toInt + (1 * x7.toInt + 0)) + 2 := by
    obtain ⟨z, e6, e7⟩ := m3 ([(9, -1), (7, 1)], 2) (List.mem_of_getElem? (i := 3) rfl)
    obtain rfl : (-1 * x9.toInt + (1 * x7.toInt + 0)) = z := Option.some.inj (show some (-1 * x9.toInt + (1 * x7.toInt + 0)) = some z from e6)
    exact e7
  have f0 : rB K n p 208 [rR x0, rI x1, rI x2, rI x3, rI x4, rI x6] σ := by
    obtain ⟨w, e6, e7⟩ := m4 (3334, [0, 1, 2, 3, 4, 6]) (List.mem_of_getElem? (i := 0) rfl)
    obtain rfl : [rR x0, rI x1, rI x2, rI x3, rI x4, rI x6] = w := Option.some.inj (show some [rR x0, rI x1, rI x2, rI x3, rI x4, rI x6] = some w from e6)
    exact (rF_b (r := 3334) (by decide) rfl).mp e7
  obtain ⟨M9, h9, f0⟩ := ro_208.mp f0
  obtain rfl := rMg_u hT h9
  clear h9
  have f1 : rB K n p 155 [rI x3, rI x4, rI x5] σ := by
    obtain ⟨w, e6, e7⟩ := m4 (2483, [3, 4, 5]) (List.mem_of_getElem? (i := 1) rfl)
    obtain rfl : [rI x3, rI x4, rI x5] = w := Option.some.inj (show some [rI x3, rI x4, rI x5] = some w from e6)
    exact (rF_b (r := 2483) (by decide) rfl).mp e7
  have f1 := ro_155.mp f1
  have f2 : rB K n p 120 [rI x1, rI x3, rI x4, rI x8] σ := by
    obtain ⟨w, e6, e7⟩ := m4 (1924, [1, 3, 4, 8]) (List.mem_of_getElem? (i := 2) rfl)
    obtain rfl : [rI x1, rI x3, rI x4, rI x8] = w := Option.some.inj (show some [rI x1, rI x3, rI x4, rI x8] = some w from e6)
    exact (rF_b (r := 1924) (by decide) rfl).mp e7
  have f2 := ro_120.mp f2
  have f3 : rB K n p 200 [rR x0, rI x8, rI x9, rI x10] σ := by
    obtain ⟨w, e6, e7⟩ := m4 (3204, [0, 8, 9, 10]) (List.mem_of_getElem? (i := 3) rfl)
    obtain rfl : [rR x0, rI x8, rI x9, rI x10] = w := Option.some.inj (show some [rR x0, rI x8, rI x9, rI x10] = some w from e6)
    exact (rF_b (r := 3204) (by decide) rfl).mp e7
  obtain ⟨M9, h9, f3⟩ := ro_200.mp f3
  obtain rfl := rMg_u hT h9
  clear h9
  clear m1 m2 m3 m4
  have q0 : rB K n p 209 [rR x0, rI x1, rI x2, rI x3, rI x4, rI x11] σ := ro_209.mpr ⟨_, hT, by
    intro _
    obtain ⟨k1, k2, k3, k4⟩ := f0 (by omega)
    refine ⟨k1, k2, k3, k4, ?_⟩
    unfold rA2
    rw [← f1, ← f2]
    omega⟩
  exact ⟨p, fun _ => rfl, ⟨(fun q h => by cases h), fun q h => (by cases h), (fun f h => by cases h), (aAllc ⟨_, rfl, (rF_b (r := 3350) (by decide) rfl).mpr q0⟩ (fun f h => by cases h))⟩, [], List.mem_cons_self, fun f h => (by cases h)⟩
theorem rw_rwB2 {K : Nat → Nat} {n : Nat} {JX : (Nat → jcell) → Prop} : aGho (rF K n) fa_T K n JX ag_rwB2 := by
  refine aGho_of ⟨rfl, rfl⟩ ?_
  intro p σ ρ hH hX hA hM0
  have hG := aAG_of hA.1 (fun i e v he hv => (hA.2 i e v he hv).1)
  clear hA
  obtain ⟨v0, v1, v2, v3, v4, v5, v6, v7, v8, v9, v10, v11, rfl, g0, g1, g2, g3, g4, g5, g6, g7, g8, g9, g10, g11⟩ := rA_12 hG
  clear hG
  obtain ⟨x0, rfl, b0, d0⟩ := rG_ref (by decide) g0
  obtain ⟨x1, rfl, b1, d1⟩ := aG_int g1
  dsimp only at b1 d1
  obtain ⟨x2, rfl, b2, d2⟩ := aG_int g2
  dsimp only at b2 d2
  obtain ⟨x3, rfl, b3, d3⟩ := aG_int g3
  dsimp only at b3 d3
  obtain ⟨x4, rfl, b4, d4⟩ := aG_int g4
  dsimp only at b4 d4
  obtain ⟨x5, rfl, b5, d5⟩ := aG_int g5
  dsimp only at b5 d5
  obtain ⟨x6, rfl, b6, d6⟩ := aG_int g6
  dsimp only at b6 d6
  obtain ⟨x7, rfl, b7, d7⟩ := aG_int g7
  dsimp only at b7 d7
  obtain ⟨x8, rfl, b8, d8⟩ := aG_int g8
  dsimp only at b8 d8
  obtain ⟨x9, rfl, b9, d9⟩ := aG_int g9
  dsimp only at b9 d9
  obtain ⟨x10, rfl, b10, d10⟩ := aG_int g10
  dsimp only at b10 d10
  obtain ⟨x11, rfl, b11, d11⟩ := aG_int g11
  dsimp only at b11 d11
  obtain ⟨m1, m2, m3, m4⟩ := hM0
  obtain ⟨T, hT⟩ := rTe_ex hH b0 d0
  have l0 : 0 ≤ (1 * x7.toInt + (-8 * x2.toInt + 0)) + 0 := by
    obtain ⟨z, e6, e7⟩ := m3 ([(7, 1), (2, -8)], 0) (List.mem_of_getElem? (i := 0) rfl)
    obtain rfl : (1 * x7.toInt + (-8 * x2.toInt + 0)) = z := Option.some.inj (show some (1 * x7.toInt + (-8 * x2.toInt + 0)) = some z from e6)
    exact e7
  have l1 : 0 ≤ (-1 * x7.toInt + (8 * x2.toInt + 0)) + 0 := by
    obtain ⟨z, e6, e7⟩ := m3 ([(7, -1), (2, 8)], 0) (List.mem_of_getElem? (i := 1) rfl)
    obtain rfl : (-1 * x7.toInt + (8 * x2.toInt + 0)) = z := Option.some.inj (show some (-1 * x7.toInt + (8 * x2.toInt + 0)) = some z from e6)
    exact e7
  have l2 : 0 ≤ (1 * x9.toInt + (-1 * x7.toInt + 0)) + -6 := by
    obtain ⟨z, e6, e7⟩ := m3 ([(9, 1), (7, -1)], -6) (List.mem_of_getElem? (i := 2) rfl)
    obtain rfl : (1 * x9.toInt + (-1 * x7.toInt + 0)) = z := Option.some.inj (show some (1 * x9.toInt + (-1 * x7.toInt + 0)) = some z from e6)
    exact e7
  have l3 : 0 ≤ (-1 * x9.toInt + (1 * x7.toInt + 0)) + 6 := by
    obtain ⟨z, e6, e7⟩ := m3 ([(9, -1), (7, 1)], 6) (List.mem_of_getElem? (i := 3) rfl)
    obtain rfl : (-1 * x9.toInt + (1 * x7.toInt + 0)) = z := Option.some.inj (show some (-1 * x9.toInt + (1 * x7.toInt + 0)) = some z from e6)
    exact e7
  have f0 : rB K n p 208 [rR x0, rI x1, rI x2, rI x3, rI x4, rI x6] σ := by
    obtain ⟨w, e6, e7⟩ := m4 (3334, [0, 1, 2, 3, 4, 6]) (List.mem_of_getElem? (i := 0) rfl)
    obtain rfl : [rR x0, rI x1, rI x2, rI x3, rI x4, rI x6] = w := Option.some.inj (show some [rR x0, rI x1, rI x2, rI x3, rI x4, rI x6] = some w from e6)
    exact (rF_b (r := 3334) (by decide) rfl).mp e7
  obtain ⟨M9, h9, f0⟩ := ro_208.mp f0
  obtain rfl := rMg_u hT h9
  clear h9
  have f1 : rB K n p 155 [rI x3, rI x4, rI x5] σ := by
    obtain ⟨w, e6, e7⟩ := m4 (2483, [3, 4, 5]) (List.mem_of_getElem? (i := 1) rfl)
    obtain rfl : [rI x3, rI x4, rI x5] = w := Option.some.inj (show some [rI x3, rI x4, rI x5] = some w from e6)
    exact (rF_b (r := 2483) (by decide) rfl).mp e7
  have f1 := ro_155.mp f1
  have f2 : rB K n p 120 [rI x1, rI x3, rI x4, rI x8] σ := by
    obtain ⟨w, e6, e7⟩ := m4 (1924, [1, 3, 4, 8]) (List.mem_of_getElem? (i := 2) rfl)
    obtain rfl : [rI x1, rI x3, rI x4, rI x8] = w := Option.some.inj (show some [rI x1, rI x3, rI x4, rI x8] = some w from e6)
    exact (rF_b (r := 1924) (by decide) rfl).mp e7
  have f2 := ro_120.mp f2
  have f3 : rB K n p 200 [rR x0, rI x8, rI x9, rI x10] σ := by
    obtain ⟨w, e6, e7⟩ := m4 (3204, [0, 8, 9, 10]) (List.mem_of_getElem? (i := 3) rfl)
    obtain rfl : [rR x0, rI x8, rI x9, rI x10] = w := Option.some.inj (show some [rR x0, rI x8, rI x9, rI x10] = some w from e6)
    exact (rF_b (r := 3204) (by decide) rfl).mp e7
  obtain ⟨M9, h9, f3⟩ := ro_200.mp f3
  obtain rfl := rMg_u hT h9
  clear h9
  clear m1 m2 m3 m4
  have q0 : rB K n p 209 [rR x0, rI x1, rI x2, rI x3, rI x4, rI x11] σ := ro_209.mpr ⟨_, hT, by
    intro _
    obtain ⟨k1, k2, k3, k4⟩ := f0 (by omega)
    refine ⟨k1, k2, k3, k4, ?_⟩
    unfold rA2
    rw [← f1, ← f2]
    omega⟩
  exact ⟨p, fun _ => rfl, ⟨(fun q h => by cases h), fun q h => (by cases h), (fun f h => by cases h), (aAllc ⟨_, rfl, (rF_b (r := 3350) (by decide) rfl).mpr q0⟩ (fun f h => by cases h))⟩, [], List.mem_cons_self, fun f h => (by cases h)⟩
theorem rw_rwB00 {K : Nat → Nat} {n : Nat} {JX : (Nat → jcell) → Prop} : aGho (rF K n) fa_T K n JX ag_rwB00 := by
  refine aGho_of ⟨rfl, rfl⟩ ?_
  intro p σ ρ hH hX hA hM0
  have hG := aAG_of hA.1 (fun i e v he hv => (hA.2 i e v he hv).1)
  clear hA
  obtain ⟨v0, v1, v2, v3, v4, v5, v6, v7, rfl, g0, g1, g2, g3, g4, g5, g6, g7⟩ := rA_8 hG
  clear hG
  obtain ⟨x0, rfl, b0, d0⟩ := rG_ref (by decide) g0
  obtain ⟨x1, rfl, b1, d1⟩ := aG_int g1
  dsimp only at b1 d1
  obtain ⟨x2, rfl, b2, d2⟩ := aG_int g2
  dsimp only at b2 d2
  obtain ⟨x3, rfl, b3, d3⟩ := aG_int g3
  dsimp only at b3 d3
  obtain ⟨x4, rfl, b4, d4⟩ := aG_int g4
  dsimp only at b4 d4
  obtain ⟨x5, rfl, b5, d5⟩ := aG_int g5
  dsimp only at b5 d5
  obtain ⟨x6, rfl, b6, d6⟩ := aG_int g6
  dsimp only at b6 d6
  obtain ⟨x7, rfl, b7, d7⟩ := aG_int g7
  dsimp only at b7 d7
  obtain ⟨m1, m2, m3, m4⟩ := hM0
  obtain ⟨T, hT⟩ := rTe_ex hH b0 d0
  have f0 : rB K n p 208 [rR x0, rI x1, rI x2, rI x3, rI x4, rI x6] σ := by
    obtain ⟨w, e6, e7⟩ := m4 (3334, [0, 1, 2, 3, 4, 6]) (List.mem_of_getElem? (i := 0) rfl)
    obtain rfl : [rR x0, rI x1, rI x2, rI x3, rI x4, rI x6] = w := Option.some.inj (show some [rR x0, rI x1, rI x2, rI x3, rI x4, rI x6] = some w from e6)
    exact (rF_b (r := 3334) (by decide) rfl).mp e7
  obtain ⟨M9, h9, f0⟩ := ro_208.mp f0
  obtain rfl := rMg_u hT h9
  clear h9
  have f1 : rB K n p 155 [rI x3, rI x4, rI x5] σ := by
    obtain ⟨w, e6, e7⟩ := m4 (2483, [3, 4, 5]) (List.mem_of_getElem? (i := 1) rfl)
    obtain rfl : [rI x3, rI x4, rI x5] = w := Option.some.inj (show some [rI x3, rI x4, rI x5] = some w from e6)
    exact (rF_b (r := 2483) (by decide) rfl).mp e7
  have f1 := ro_155.mp f1
  clear m1 m2 m3 m4
  have q0 : rB K n p 209 [rR x0, rI x1, rI x2, rI x3, rI x4, rI x7] σ := ro_209.mpr ⟨_, hT, by
    intro _
    obtain ⟨k1, k2, k3, k4⟩ := f0 (by omega)
    refine ⟨k1, k2, k3, k4, ?_⟩
    unfold rA2
    rw [← f1]
    omega⟩
  exact ⟨p, fun _ => rfl, ⟨(fun q h => by cases h), fun q h => (by cases h), (fun f h => by cases h), (aAllc ⟨_, rfl, (rF_b (r := 3350) (by decide) rfl).mpr q0⟩ (fun f h => by cases h))⟩, [], List.mem_cons_self, fun f h => (by cases h)⟩
theorem rw_rwB01 {K : Nat → Nat} {n : Nat} {JX : (Nat → jcell) → Prop} : aGho (rF K n) fa_T K n JX ag_rwB01 := by
  refine aGho_of ⟨rfl, rfl⟩ ?_
  intro p σ ρ hH hX hA hM0
  have hG := aAG_of hA.1 (fun i e v he hv => (hA.2 i e v he hv).1)
  clear hA
  obtain ⟨v0, v1, v2, v3, v4, v5, v6, v7, rfl, g0, g1, g2, g3, g4, g5, g6, g7⟩ := rA_8 hG
  clear hG
  obtain ⟨x0, rfl, b0, d0⟩ := rG_ref (by decide) g0
  obtain ⟨x1, rfl, b1, d1⟩ := aG_int g1
  dsimp only at b1 d1
  obtain ⟨x2, rfl, b2, d2⟩ := aG_int g2
  dsimp only at b2 d2
  obtain ⟨x3, rfl, b3, d3⟩ := aG_int g3
  dsimp only at b3 d3
  obtain ⟨x4, rfl, b4, d4⟩ := aG_int g4
  dsimp only at b4 d4
  obtain ⟨x5, rfl, b5, d5⟩ := aG_int g5
  dsimp only at b5 d5
  obtain ⟨x6, rfl, b6, d6⟩ := aG_int g6
  dsimp only at b6 d6
  obtain ⟨x7, rfl, b7, d7⟩ := aG_int g7
  dsimp only at b7 d7
  obtain ⟨m1, m2, m3, m4⟩ := hM0
  obtain ⟨T, hT⟩ := rTe_ex hH b0 d0
  have f0 : rB K n p 208 [rR x0, rI x1, rI x2, rI x3, rI x4, rI x6] σ := by
    obtain ⟨w, e6, e7⟩ := m4 (3334, [0, 1, 2, 3, 4, 6]) (List.mem_of_getElem? (i := 0) rfl)
    obtain rfl : [rR x0, rI x1, rI x2, rI x3, rI x4, rI x6] = w := Option.some.inj (show some [rR x0, rI x1, rI x2, rI x3, rI x4, rI x6] = some w from e6)
    exact (rF_b (r := 3334) (by decide) rfl).mp e7
  obtain ⟨M9, h9, f0⟩ := ro_208.mp f0
  obtain rfl := rMg_u hT h9
  clear h9
  have f1 : rB K n p 155 [rI x3, rI x4, rI x5] σ := by
    obtain ⟨w, e6, e7⟩ := m4 (2483, [3, 4, 5]) (List.mem_of_getElem? (i := 1) rfl)
    obtain rfl : [rI x3, rI x4, rI x5] = w := Option.some.inj (show some [rI x3, rI x4, rI x5] = some w from e6)
    exact (rF_b (r := 2483) (by decide) rfl).mp e7
  have f1 := ro_155.mp f1
  clear m1 m2 m3 m4
  have q0 : rB K n p 209 [rR x0, rI x1, rI x2, rI x3, rI x4, rI x7] σ := ro_209.mpr ⟨_, hT, by
    intro _
    obtain ⟨k1, k2, k3, k4⟩ := f0 (by omega)
    refine ⟨k1, k2, k3, k4, ?_⟩
    unfold rA2
    rw [← f1]
    omega⟩
  exact ⟨p, fun _ => rfl, ⟨(fun q h => by cases h), fun q h => (by cases h), (fun f h => by cases h), (aAllc ⟨_, rfl, (rF_b (r := 3350) (by decide) rfl).mpr q0⟩ (fun f h => by cases h))⟩, [], List.mem_cons_self, fun f h => (by cases h)⟩
theorem rw_rwB02 {K : Nat → Nat} {n : Nat} {JX : (Nat → jcell) → Prop} : aGho (rF K n) fa_T K n JX ag_rwB02 := by
  refine aGho_of ⟨rfl, rfl⟩ ?_
  intro p σ ρ hH hX hA hM0
  have hG := aAG_of hA.1 (fun i e v he hv => (hA.2 i e v he hv).1)
  clear hA
  obtain ⟨v0, v1, v2, v3, v4, v5, v6, v7, rfl, g0, g1, g2, g3, g4, g5, g6, g7⟩ := rA_8 hG
  clear hG
  obtain ⟨x0, rfl, b0, d0⟩ := rG_ref (by decide) g0
  obtain ⟨x1, rfl, b1, d1⟩ := aG_int g1
  dsimp only at b1 d1
  obtain ⟨x2, rfl, b2, d2⟩ := aG_int g2
  dsimp only at b2 d2
  obtain ⟨x3, rfl, b3, d3⟩ := aG_int g3
  dsimp only at b3 d3
  obtain ⟨x4, rfl, b4, d4⟩ := aG_int g4
  dsimp only at b4 d4
  obtain ⟨x5, rfl, b5, d5⟩ := aG_int g5
  dsimp only at b5 d5
  obtain ⟨x6, rfl, b6, d6⟩ := aG_int g6
  dsimp only at b6 d6
  obtain ⟨x7, rfl, b7, d7⟩ := aG_int g7
  dsimp only at b7 d7
  obtain ⟨m1, m2, m3, m4⟩ := hM0
  obtain ⟨T, hT⟩ := rTe_ex hH b0 d0
  have f0 : rB K n p 208 [rR x0, rI x1, rI x2, rI x3, rI x4, rI x6] σ := by
    obtain ⟨w, e6, e7⟩ := m4 (3334, [0, 1, 2, 3, 4, 6]) (List.mem_of_getElem? (i := 0) rfl)
    obtain rfl : [rR x0, rI x1, rI x2, rI x3, rI x4, rI x6] = w := Option.some.inj (show some [rR x0, rI x1, rI x2, rI x3, rI x4, rI x6] = some w from e6)
    exact (rF_b (r := 3334) (by decide) rfl).mp e7
  obtain ⟨M9, h9, f0⟩ := ro_208.mp f0
  obtain rfl := rMg_u hT h9
  clear h9
  have f1 : rB K n p 155 [rI x3, rI x4, rI x5] σ := by
    obtain ⟨w, e6, e7⟩ := m4 (2483, [3, 4, 5]) (List.mem_of_getElem? (i := 1) rfl)
    obtain rfl : [rI x3, rI x4, rI x5] = w := Option.some.inj (show some [rI x3, rI x4, rI x5] = some w from e6)
    exact (rF_b (r := 2483) (by decide) rfl).mp e7
  have f1 := ro_155.mp f1
  clear m1 m2 m3 m4
  have q0 : rB K n p 209 [rR x0, rI x1, rI x2, rI x3, rI x4, rI x7] σ := ro_209.mpr ⟨_, hT, by
    intro _
    obtain ⟨k1, k2, k3, k4⟩ := f0 (by omega)
    refine ⟨k1, k2, k3, k4, ?_⟩
    unfold rA2
    rw [← f1]
    omega⟩
  exact ⟨p, fun _ => rfl, ⟨(fun q h => by cases h), fun q h => (by cases h), (fun f h => by cases h), (aAllc ⟨_, rfl, (rF_b (r := 3350) (by decide) rfl).mpr q0⟩ (fun f h => by cases h))⟩, [], List.mem_cons_self, fun f h => (by cases h)⟩
theorem rw_rwC1 {K : Nat → Nat} {n : Nat} {JX : (Nat → jcell) → Prop} : aGho (rF K n) fa_T K n JX ag_rwC1 := by
  refine aGho_of ⟨rfl, rfl⟩ ?_
  intro p σ ρ hH hX hA hM0
  have hG := aAG_of hA.1 (fun i e v he hv => (hA.2 i e v he hv).1)
  clear hA
  obtain ⟨v0, v1, v2, v3, v4, v5, rfl, g0, g1, g2, g3, g4, g5⟩ := rA_6 hG
  clear hG
  obtain ⟨x0, rfl, b0, d0⟩ := rG_ref (by decide) g0
  obtain ⟨x1, rfl, b1, d1⟩ := aG_int g1
  dsimp only at b1 d1
  obtain ⟨x2, rfl, b2, d2⟩ := aG_int g2
  dsimp only at b2 d2
  obtain ⟨x3, rfl, b3, d3⟩ := aG_int g3
  dsimp only at b3 d3
  obtain ⟨x4, rfl, b4, d4⟩ := aG_int g4
  dsimp only at b4 d4
  obtain ⟨x5, rfl, b5, d5⟩ := aG_int g5
  dsimp only at b5 d5
  obtain ⟨m1, m2, m3, m4⟩ := hM0
  obtain ⟨T, hT⟩ := rTe_ex hH b0 d0
  clear m1 m2 m3 m4
  have q0 : rB K n p 210 [rR x0, rI x1, rI x2, rI x3, rI x4, rI x5] σ := ro_210.mpr ⟨_, hT, by
    intro h
    omega⟩
  exact ⟨p, fun _ => rfl, ⟨(fun q h => by cases h), fun q h => (by cases h), (fun f h => by cases h), (aAllc ⟨_, rfl, (rF_b (r := 3366) (by decide) rfl).mpr q0⟩ (fun f h => by cases h))⟩, [], List.mem_cons_self, fun f h => (by cases h)⟩
theorem rw_rwC2 {K : Nat → Nat} {n : Nat} {JX : (Nat → jcell) → Prop} : aGho (rF K n) fa_T K n JX ag_rwC2 := by
  refine aGho_of ⟨rfl, rfl⟩ ?_
  intro p σ ρ hH hX hA hM0
  have hG := aAG_of hA.1 (fun i e v he hv => (hA.2 i e v he hv).1)
  clear hA
  obtain ⟨v0, v1, v2, v3, v4, v5, v6, v7, v8, v9, rfl, g0, g1, g2, g3, g4, g5, g6, g7, g8, g9⟩ := rA_10 hG
  clear hG
  obtain ⟨x0, rfl, b0, d0⟩ := rG_ref (by decide) g0
  obtain ⟨x1, rfl, b1, d1⟩ := aG_int g1
  dsimp only at b1 d1
  obtain ⟨x2, rfl, b2, d2⟩ := aG_int g2
  dsimp only at b2 d2
  obtain ⟨x3, rfl, b3, d3⟩ := aG_int g3
  dsimp only at b3 d3
  obtain ⟨x4, rfl, b4, d4⟩ := aG_int g4
  dsimp only at b4 d4
  obtain ⟨x5, rfl, b5, d5⟩ := aG_int g5
  dsimp only at b5 d5
  obtain ⟨x6, rfl, b6, d6⟩ := aG_int g6
  dsimp only at b6 d6
  obtain ⟨x7, rfl, b7, d7⟩ := aG_int g7
  dsimp only at b7 d7
  obtain ⟨x8, rfl, b8, d8⟩ := aG_int g8
  dsimp only at b8 d8
  obtain ⟨x9, rfl, b9, d9⟩ := aG_int g9
  dsimp only at b9 d9
  obtain ⟨m1, m2, m3, m4⟩ := hM0
  obtain ⟨T, hT⟩ := rTe_ex hH b0 d0
  have l0 : 0 ≤ (1 * x7.toInt + (-8 * x2.toInt + 0)) + 0 := by
    obtain ⟨z, e6, e7⟩ := m3 ([(7, 1), (2, -8)], 0) (List.mem_of_getElem? (i := 0) rfl)
    obtain rfl : (1 * x7.toInt + (-8 * x2.toInt + 0)) = z := Option.some.inj (show some (1 * x7.toInt + (-8 * x2.toInt + 0)) = some z from e6)
    exact e7
  have l1 : 0 ≤ (-1 * x7.toInt + (8 * x2.toInt + 0)) + 0 := by
    obtain ⟨z, e6, e7⟩ := m3 ([(7, -1), (2, 8)], 0) (List.mem_of_getElem? (i := 1) rfl)
    obtain rfl : (-1 * x7.toInt + (8 * x2.toInt + 0)) = z := Option.some.inj (show some (-1 * x7.toInt + (8 * x2.toInt + 0)) = some z from e6)
    exact e7
  have f0 : rB K n p 209 [rR x0, rI x1, rI x2, rI x3, rI x4, rI x6] σ := by
    obtain ⟨w, e6, e7⟩ := m4 (3350, [0, 1, 2, 3, 4, 6]) (List.mem_of_getElem? (i := 0) rfl)
    obtain rfl : [rR x0, rI x1, rI x2, rI x3, rI x4, rI x6] = w := Option.some.inj (show some [rR x0, rI x1, rI x2, rI x3, rI x4, rI x6] = some w from e6)
    exact (rF_b (r := 3350) (by decide) rfl).mp e7
  obtain ⟨M9, h9, f0⟩ := ro_209.mp f0
  obtain rfl := rMg_u hT h9
  clear h9
  have f1 : rB K n p 155 [rI x3, rI x4, rI x5] σ := by
    obtain ⟨w, e6, e7⟩ := m4 (2483, [3, 4, 5]) (List.mem_of_getElem? (i := 1) rfl)
    obtain rfl : [rI x3, rI x4, rI x5] = w := Option.some.inj (show some [rI x3, rI x4, rI x5] = some w from e6)
    exact (rF_b (r := 2483) (by decide) rfl).mp e7
  have f1 := ro_155.mp f1
  have f2 : rB K n p 203 [rR x0, rI x1, rI x3, rI x4, rI x8] σ := by
    obtain ⟨w, e6, e7⟩ := m4 (3253, [0, 1, 3, 4, 8]) (List.mem_of_getElem? (i := 2) rfl)
    obtain rfl : [rR x0, rI x1, rI x3, rI x4, rI x8] = w := Option.some.inj (show some [rR x0, rI x1, rI x3, rI x4, rI x8] = some w from e6)
    exact (rF_b (r := 3253) (by decide) rfl).mp e7
  obtain ⟨M9, h9, f2⟩ := ro_203.mp f2
  obtain rfl := rMg_u hT h9
  clear h9
  have f3 : rB K n p 133 [rI x8, rI x7] σ := by
    obtain ⟨w, e6, e7⟩ := m4 (2130, [8, 7]) (List.mem_of_getElem? (i := 3) rfl)
    obtain rfl : [rI x8, rI x7] = w := Option.some.inj (show some [rI x8, rI x7] = some w from e6)
    exact (rF_b (r := 2130) (by decide) rfl).mp e7
  have f3 := ro_133.mp f3
  have f4 : rB K n p 134 [rI x8, rI x7, rI x5] σ := by
    obtain ⟨w, e6, e7⟩ := m4 (2147, [8, 7, 5]) (List.mem_of_getElem? (i := 4) rfl)
    obtain rfl : [rI x8, rI x7, rI x5] = w := Option.some.inj (show some [rI x8, rI x7, rI x5] = some w from e6)
    exact (rF_b (r := 2147) (by decide) rfl).mp e7
  have f4 := ro_134.mp f4
  clear m1 m2 m3 m4
  have q0 : rB K n p 210 [rR x0, rI x1, rI x2, rI x3, rI x4, rI x9] σ := ro_210.mpr ⟨_, hT, by
    intro _
    obtain ⟨k1, k2, k3, k4, k5⟩ := f0 (by omega)
    refine ⟨k1, k2, k3, fun r h1 h2 => ?_⟩
    by_cases cr : r = x4.toInt
    · rw [cr]
      intro h
      refine k5 ?_
      rcases h with h | ⟨h3, h4, h | ⟨m, h5, h6⟩⟩
      · exact Or.inl h
      · exact Or.inr ⟨h3, h4, h⟩
      · exfalso
        obtain rfl := rGf_u h5 f2
        rw [← f1] at h6
        omega
    · exact k4 r h1 (by omega)⟩
  exact ⟨p, fun _ => rfl, ⟨(fun q h => by cases h), fun q h => (by cases h), (fun f h => by cases h), (aAllc ⟨_, rfl, (rF_b (r := 3366) (by decide) rfl).mpr q0⟩ (fun f h => by cases h))⟩, [], List.mem_cons_self, fun f h => (by cases h)⟩
theorem rw_rwC00 {K : Nat → Nat} {n : Nat} {JX : (Nat → jcell) → Prop} : aGho (rF K n) fa_T K n JX ag_rwC00 := by
  refine aGho_of ⟨rfl, rfl⟩ ?_
  intro p σ ρ hH hX hA hM0
  have hG := aAG_of hA.1 (fun i e v he hv => (hA.2 i e v he hv).1)
  clear hA
  obtain ⟨v0, v1, v2, v3, v4, v5, v6, rfl, g0, g1, g2, g3, g4, g5, g6⟩ := rA_7 hG
  clear hG
  obtain ⟨x0, rfl, b0, d0⟩ := rG_ref (by decide) g0
  obtain ⟨x1, rfl, b1, d1⟩ := aG_int g1
  dsimp only at b1 d1
  obtain ⟨x2, rfl, b2, d2⟩ := aG_int g2
  dsimp only at b2 d2
  obtain ⟨x3, rfl, b3, d3⟩ := aG_int g3
  dsimp only at b3 d3
  obtain ⟨x4, rfl, b4, d4⟩ := aG_int g4
  dsimp only at b4 d4
  obtain ⟨x5, rfl, b5, d5⟩ := aG_int g5
  dsimp only at b5 d5
  obtain ⟨x6, rfl, b6, d6⟩ := aG_int g6
  dsimp only at b6 d6
  obtain ⟨m1, m2, m3, m4⟩ := hM0
  obtain ⟨T, hT⟩ := rTe_ex hH b0 d0
  have f0 : rB K n p 209 [rR x0, rI x1, rI x2, rI x3, rI x4, rI x6] σ := by
    obtain ⟨w, e6, e7⟩ := m4 (3350, [0, 1, 2, 3, 4, 6]) (List.mem_of_getElem? (i := 0) rfl)
    obtain rfl : [rR x0, rI x1, rI x2, rI x3, rI x4, rI x6] = w := Option.some.inj (show some [rR x0, rI x1, rI x2, rI x3, rI x4, rI x6] = some w from e6)
    exact (rF_b (r := 3350) (by decide) rfl).mp e7
  obtain ⟨M9, h9, f0⟩ := ro_209.mp f0
  obtain rfl := rMg_u hT h9
  clear h9
  have f1 : rB K n p 155 [rI x3, rI x4, rI x5] σ := by
    obtain ⟨w, e6, e7⟩ := m4 (2483, [3, 4, 5]) (List.mem_of_getElem? (i := 1) rfl)
    obtain rfl : [rI x3, rI x4, rI x5] = w := Option.some.inj (show some [rI x3, rI x4, rI x5] = some w from e6)
    exact (rF_b (r := 2483) (by decide) rfl).mp e7
  have f1 := ro_155.mp f1
  clear m1 m2 m3 m4
  have q0 : rB K n p 210 [rR x0, rI x1, rI x2, rI x3, rI x4, rI x6] σ := ro_210.mpr ⟨_, hT, by
    intro h9
    obtain ⟨k1, k2, k3, k4, k5⟩ := f0 h9
    refine ⟨k1, k2, k3, fun r h1 h2 => ?_⟩
    by_cases cr : r = x4.toInt
    · rw [cr]
      intro h
      refine k5 ?_
      rcases h with h | ⟨h3, h4, h | ⟨m, h5, h6⟩⟩
      · exact Or.inl h
      · exact Or.inr ⟨h3, h4, h⟩
      · exfalso
        rw [← f1] at h3 h4
        omega
    · exact k4 r h1 (by omega)⟩
  exact ⟨p, fun _ => rfl, ⟨(fun q h => by cases h), fun q h => (by cases h), (fun f h => by cases h), (aAllc ⟨_, rfl, (rF_b (r := 3366) (by decide) rfl).mpr q0⟩ (fun f h => by cases h))⟩, [], List.mem_cons_self, fun f h => (by cases h)⟩
theorem rw_rwC01 {K : Nat → Nat} {n : Nat} {JX : (Nat → jcell) → Prop} : aGho (rF K n) fa_T K n JX ag_rwC01 := by
  refine aGho_of ⟨rfl, rfl⟩ ?_
  intro p σ ρ hH hX hA hM0
  have hG := aAG_of hA.1 (fun i e v he hv => (hA.2 i e v he hv).1)
  clear hA
  obtain ⟨v0, v1, v2, v3, v4, v5, v6, rfl, g0, g1, g2, g3, g4, g5, g6⟩ := rA_7 hG
  clear hG
  obtain ⟨x0, rfl, b0, d0⟩ := rG_ref (by decide) g0
  obtain ⟨x1, rfl, b1, d1⟩ := aG_int g1
  dsimp only at b1 d1
  obtain ⟨x2, rfl, b2, d2⟩ := aG_int g2
  dsimp only at b2 d2
  obtain ⟨x3, rfl, b3, d3⟩ := aG_int g3
  dsimp only at b3 d3
  obtain ⟨x4, rfl, b4, d4⟩ := aG_int g4
  dsimp only at b4 d4
  obtain ⟨x5, rfl, b5, d5⟩ := aG_int g5
  dsimp only at b5 d5
  obtain ⟨x6, rfl, b6, d6⟩ := aG_int g6
  dsimp only at b6 d6
  obtain ⟨m1, m2, m3, m4⟩ := hM0
  obtain ⟨T, hT⟩ := rTe_ex hH b0 d0
  have f0 : rB K n p 209 [rR x0, rI x1, rI x2, rI x3, rI x4, rI x6] σ := by
    obtain ⟨w, e6, e7⟩ := m4 (3350, [0, 1, 2, 3, 4, 6]) (List.mem_of_getElem? (i := 0) rfl)
    obtain rfl : [rR x0, rI x1, rI x2, rI x3, rI x4, rI x6] = w := Option.some.inj (show some [rR x0, rI x1, rI x2, rI x3, rI x4, rI x6] = some w from e6)
    exact (rF_b (r := 3350) (by decide) rfl).mp e7
  obtain ⟨M9, h9, f0⟩ := ro_209.mp f0
  obtain rfl := rMg_u hT h9
  clear h9
  have f1 : rB K n p 155 [rI x3, rI x4, rI x5] σ := by
    obtain ⟨w, e6, e7⟩ := m4 (2483, [3, 4, 5]) (List.mem_of_getElem? (i := 1) rfl)
    obtain rfl : [rI x3, rI x4, rI x5] = w := Option.some.inj (show some [rI x3, rI x4, rI x5] = some w from e6)
    exact (rF_b (r := 2483) (by decide) rfl).mp e7
  have f1 := ro_155.mp f1
  clear m1 m2 m3 m4
  have q0 : rB K n p 210 [rR x0, rI x1, rI x2, rI x3, rI x4, rI x6] σ := ro_210.mpr ⟨_, hT, by
    intro h9
    obtain ⟨k1, k2, k3, k4, k5⟩ := f0 h9
    refine ⟨k1, k2, k3, fun r h1 h2 => ?_⟩
    by_cases cr : r = x4.toInt
    · rw [cr]
      intro h
      refine k5 ?_
      rcases h with h | ⟨h3, h4, h | ⟨m, h5, h6⟩⟩
      · exact Or.inl h
      · exact Or.inr ⟨h3, h4, h⟩
      · exfalso
        rw [← f1] at h3 h4
        omega
    · exact k4 r h1 (by omega)⟩
  exact ⟨p, fun _ => rfl, ⟨(fun q h => by cases h), fun q h => (by cases h), (fun f h => by cases h), (aAllc ⟨_, rfl, (rF_b (r := 3366) (by decide) rfl).mpr q0⟩ (fun f h => by cases h))⟩, [], List.mem_cons_self, fun f h => (by cases h)⟩
theorem rw_rwAn {K : Nat → Nat} {n : Nat} {JX : (Nat → jcell) → Prop} : aGho (rF K n) fa_T K n JX ag_rwAn := by
  refine aGho_of ⟨rfl, rfl⟩ ?_
  intro p σ ρ hH hX hA hM0
  have hG := aAG_of hA.1 (fun i e v he hv => (hA.2 i e v he hv).1)
  clear hA
  obtain ⟨v0, v1, v2, v3, v4, v5, v6, rfl, g0, g1, g2, g3, g4, g5, g6⟩ := rA_7 hG
  clear hG
  obtain ⟨x0, rfl, b0, d0⟩ := rG_ref (by decide) g0
  obtain ⟨x1, rfl, b1, d1⟩ := aG_int g1
  dsimp only at b1 d1
  obtain ⟨x2, rfl, b2, d2⟩ := aG_int g2
  dsimp only at b2 d2
  obtain ⟨x3, rfl, b3, d3⟩ := aG_int g3
  dsimp only at b3 d3
  obtain ⟨x4, rfl, b4, d4⟩ := aG_int g4
  dsimp only at b4 d4
  obtain ⟨x5, rfl, b5, d5⟩ := aG_int g5
  dsimp only at b5 d5
  obtain ⟨x6, rfl, b6, d6⟩ := aG_int g6
  dsimp only at b6 d6
  obtain ⟨m1, m2, m3, m4⟩ := hM0
  obtain ⟨T, hT⟩ := rTe_ex hH b0 d0
  have l0 : 0 ≤ (1 * x6.toInt + (-1 * x4.toInt + 0)) + -1 := by
    obtain ⟨z, e6, e7⟩ := m3 ([(6, 1), (4, -1)], -1) (List.mem_of_getElem? (i := 0) rfl)
    obtain rfl : (1 * x6.toInt + (-1 * x4.toInt + 0)) = z := Option.some.inj (show some (1 * x6.toInt + (-1 * x4.toInt + 0)) = some z from e6)
    exact e7
  have l1 : 0 ≤ (-1 * x6.toInt + (1 * x4.toInt + 0)) + 1 := by
    obtain ⟨z, e6, e7⟩ := m3 ([(6, -1), (4, 1)], 1) (List.mem_of_getElem? (i := 1) rfl)
    obtain rfl : (-1 * x6.toInt + (1 * x4.toInt + 0)) = z := Option.some.inj (show some (-1 * x6.toInt + (1 * x4.toInt + 0)) = some z from e6)
    exact e7
  have f0 : rB K n p 210 [rR x0, rI x1, rI x2, rI x3, rI x4, rI x5] σ := by
    obtain ⟨w, e6, e7⟩ := m4 (3366, [0, 1, 2, 3, 4, 5]) (List.mem_of_getElem? (i := 0) rfl)
    obtain rfl : [rR x0, rI x1, rI x2, rI x3, rI x4, rI x5] = w := Option.some.inj (show some [rR x0, rI x1, rI x2, rI x3, rI x4, rI x5] = some w from e6)
    exact (rF_b (r := 3366) (by decide) rfl).mp e7
  obtain ⟨M9, h9, f0⟩ := ro_210.mp f0
  obtain rfl := rMg_u hT h9
  clear h9
  clear m1 m2 m3 m4
  have q0 : rB K n p 208 [rR x0, rI x1, rI x2, rI x3, rI x6, rI x5] σ := ro_208.mpr ⟨_, hT, by
    intro h
    obtain ⟨k1, k2, k3, k4⟩ := f0 h
    exact ⟨k1, k2, k3, fun r h1 h2 => k4 r h1 (by omega)⟩⟩
  exact ⟨p, fun _ => rfl, ⟨(fun q h => by cases h), fun q h => (by cases h), (fun f h => by cases h), (aAllc ⟨_, rfl, (rF_b (r := 3334) (by decide) rfl).mpr q0⟩ (fun f h => by cases h))⟩, [], List.mem_cons_self, fun f h => (by cases h)⟩
theorem rw_rwAm {K : Nat → Nat} {n : Nat} {JX : (Nat → jcell) → Prop} : aGho (rF K n) fa_T K n JX ag_rwAm := by
  refine aGho_of ⟨rfl, rfl⟩ ?_
  intro p σ ρ hH hX hA hM0
  have hG := aAG_of hA.1 (fun i e v he hv => (hA.2 i e v he hv).1)
  clear hA
  obtain ⟨v0, v1, v2, v3, v4, v5, rfl, g0, g1, g2, g3, g4, g5⟩ := rA_6 hG
  clear hG
  obtain ⟨x0, rfl, b0, d0⟩ := rG_ref (by decide) g0
  obtain ⟨x1, rfl, b1, d1⟩ := aG_int g1
  dsimp only at b1 d1
  obtain ⟨x2, rfl, b2, d2⟩ := aG_int g2
  dsimp only at b2 d2
  obtain ⟨x3, rfl, b3, d3⟩ := aG_int g3
  dsimp only at b3 d3
  obtain ⟨x4, rfl, b4, d4⟩ := aG_int g4
  dsimp only at b4 d4
  obtain ⟨x5, rfl, b5, d5⟩ := aG_int g5
  dsimp only at b5 d5
  obtain ⟨m1, m2, m3, m4⟩ := hM0
  obtain ⟨T, hT⟩ := rTe_ex hH b0 d0
  have f0 : rB K n p 208 [rR x0, rI x1, rI x2, rI x3, rI x4, rI x5] σ := by
    obtain ⟨w, e6, e7⟩ := m4 (3334, [0, 1, 2, 3, 4, 5]) (List.mem_of_getElem? (i := 0) rfl)
    obtain rfl : [rR x0, rI x1, rI x2, rI x3, rI x4, rI x5] = w := Option.some.inj (show some [rR x0, rI x1, rI x2, rI x3, rI x4, rI x5] = some w from e6)
    exact (rF_b (r := 3334) (by decide) rfl).mp e7
  obtain ⟨M9, h9, f0⟩ := ro_208.mp f0
  obtain rfl := rMg_u hT h9
  clear h9
  clear m1 m2 m3 m4
  have q0 : rB K n p 211 [rR x0, rI x1, rI x2, rI x3, rI x5] σ := ro_211.mpr ⟨_, hT, by
    intro h
    obtain ⟨k1, k2, k3, k4⟩ := f0 h
    refine ⟨k1, k2, fun f r h1 h2 h3 h4 => ?_⟩
    by_cases cf : f = x3.toInt
    · rw [cf]; exact k4 r h3 (by omega)
    · exact k3 f r h1 (by omega) h3 h4⟩
  exact ⟨p, fun _ => rfl, ⟨(fun q h => by cases h), fun q h => (by cases h), (fun f h => by cases h), (aAllc ⟨_, rfl, (rF_b (r := 3381) (by decide) rfl).mpr q0⟩ (fun f h => by cases h))⟩, [], List.mem_cons_self, fun f h => (by cases h)⟩
theorem rw_rwAo {K : Nat → Nat} {n : Nat} {JX : (Nat → jcell) → Prop} : aGho (rF K n) fa_T K n JX ag_rwAo := by
  refine aGho_of ⟨rfl, rfl⟩ ?_
  intro p σ ρ hH hX hA hM0
  have hG := aAG_of hA.1 (fun i e v he hv => (hA.2 i e v he hv).1)
  clear hA
  obtain ⟨v0, v1, v2, v3, v4, v5, rfl, g0, g1, g2, g3, g4, g5⟩ := rA_6 hG
  clear hG
  obtain ⟨x0, rfl, b0, d0⟩ := rG_ref (by decide) g0
  obtain ⟨x1, rfl, b1, d1⟩ := aG_int g1
  dsimp only at b1 d1
  obtain ⟨x2, rfl, b2, d2⟩ := aG_int g2
  dsimp only at b2 d2
  obtain ⟨x3, rfl, b3, d3⟩ := aG_int g3
  dsimp only at b3 d3
  obtain ⟨x4, rfl, b4, d4⟩ := aG_int g4
  dsimp only at b4 d4
  obtain ⟨x5, rfl, b5, d5⟩ := aG_int g5
  dsimp only at b5 d5
  obtain ⟨m1, m2, m3, m4⟩ := hM0
  obtain ⟨T, hT⟩ := rTe_ex hH b0 d0
  have l0 : 0 ≤ (1 * x5.toInt + (-1 * x3.toInt + 0)) + -1 := by
    obtain ⟨z, e6, e7⟩ := m3 ([(5, 1), (3, -1)], -1) (List.mem_of_getElem? (i := 0) rfl)
    obtain rfl : (1 * x5.toInt + (-1 * x3.toInt + 0)) = z := Option.some.inj (show some (1 * x5.toInt + (-1 * x3.toInt + 0)) = some z from e6)
    exact e7
  have l1 : 0 ≤ (-1 * x5.toInt + (1 * x3.toInt + 0)) + 1 := by
    obtain ⟨z, e6, e7⟩ := m3 ([(5, -1), (3, 1)], 1) (List.mem_of_getElem? (i := 1) rfl)
    obtain rfl : (-1 * x5.toInt + (1 * x3.toInt + 0)) = z := Option.some.inj (show some (-1 * x5.toInt + (1 * x3.toInt + 0)) = some z from e6)
    exact e7
  have f0 : rB K n p 211 [rR x0, rI x1, rI x2, rI x3, rI x4] σ := by
    obtain ⟨w, e6, e7⟩ := m4 (3381, [0, 1, 2, 3, 4]) (List.mem_of_getElem? (i := 0) rfl)
    obtain rfl : [rR x0, rI x1, rI x2, rI x3, rI x4] = w := Option.some.inj (show some [rR x0, rI x1, rI x2, rI x3, rI x4] = some w from e6)
    exact (rF_b (r := 3381) (by decide) rfl).mp e7
  obtain ⟨M9, h9, f0⟩ := ro_211.mp f0
  obtain rfl := rMg_u hT h9
  clear h9
  clear m1 m2 m3 m4
  have q0 : rB K n p 207 [rR x0, rI x1, rI x2, rI x5, rI x4] σ := ro_207.mpr ⟨_, hT, by
    intro h
    obtain ⟨k1, k2, k3⟩ := f0 h
    exact ⟨k1, k2, fun f r h1 h2 h3 h4 => k3 f r h1 (by omega) h3 h4⟩⟩
  exact ⟨p, fun _ => rfl, ⟨(fun q h => by cases h), fun q h => (by cases h), (fun f h => by cases h), (aAllc ⟨_, rfl, (rF_b (r := 3317) (by decide) rfl).mpr q0⟩ (fun f h => by cases h))⟩, [], List.mem_cons_self, fun f h => (by cases h)⟩
theorem rw_rwAe {K : Nat → Nat} {n : Nat} {JX : (Nat → jcell) → Prop} : aGho (rF K n) fa_T K n JX ag_rwAe := by
  refine aGho_of ⟨rfl, rfl⟩ ?_
  intro p σ ρ hH hX hA hM0
  have hG := aAG_of hA.1 (fun i e v he hv => (hA.2 i e v he hv).1)
  clear hA
  obtain ⟨v0, v1, v2, v3, v4, rfl, g0, g1, g2, g3, g4⟩ := rA_5 hG
  clear hG
  obtain ⟨x0, rfl, b0, d0⟩ := rG_ref (by decide) g0
  obtain ⟨x1, rfl, b1, d1⟩ := aG_int g1
  dsimp only at b1 d1
  obtain ⟨x2, rfl, b2, d2⟩ := aG_int g2
  dsimp only at b2 d2
  obtain ⟨x3, rfl, b3, d3⟩ := aG_int g3
  dsimp only at b3 d3
  obtain ⟨x4, rfl, b4, d4⟩ := aG_int g4
  dsimp only at b4 d4
  obtain ⟨m1, m2, m3, m4⟩ := hM0
  obtain ⟨T, hT⟩ := rTe_ex hH b0 d0
  have f0 : rB K n p 207 [rR x0, rI x1, rI x2, rI x3, rI x4] σ := by
    obtain ⟨w, e6, e7⟩ := m4 (3317, [0, 1, 2, 3, 4]) (List.mem_of_getElem? (i := 0) rfl)
    obtain rfl : [rR x0, rI x1, rI x2, rI x3, rI x4] = w := Option.some.inj (show some [rR x0, rI x1, rI x2, rI x3, rI x4] = some w from e6)
    exact (rF_b (r := 3317) (by decide) rfl).mp e7
  obtain ⟨M9, h9, f0⟩ := ro_207.mp f0
  obtain rfl := rMg_u hT h9
  clear h9
  clear m1 m2 m3 m4
  have q0 : rB K n p 204 [rR x0, rI x1, rI x2, rI x4] σ := ro_204.mpr ⟨_, hT, by
    intro h9
    obtain ⟨k1, k2, k3⟩ := f0 h9
    intro h
    rcases h with h | h | ⟨f, r, h1, h2, h3, h4, h5⟩
    · exact k1 h
    · exact k2 h
    · exact k3 f r h1 (by omega) h3 h4 h5⟩
  exact ⟨p, fun _ => rfl, ⟨(fun q h => by cases h), fun q h => (by cases h), (fun f h => by cases h), (aAllc ⟨_, rfl, (rF_b (r := 3268) (by decide) rfl).mpr q0⟩ (fun f h => by cases h))⟩, [], List.mem_cons_self, fun f h => (by cases h)⟩
theorem rw_rwK0 {K : Nat → Nat} {n : Nat} {JX : (Nat → jcell) → Prop} : aGho (rF K n) fa_T K n JX ag_rwK0 := by
  refine aGho_of ⟨rfl, rfl⟩ ?_
  intro p σ ρ hH hX hA hM0
  have hG := aAG_of hA.1 (fun i e v he hv => (hA.2 i e v he hv).1)
  clear hA
  obtain ⟨v0, v1, v2, v3, rfl, g0, g1, g2, g3⟩ := rA_4 hG
  clear hG
  obtain ⟨x0, rfl, b0, d0⟩ := rG_ref (by decide) g0
  obtain ⟨x1, rfl, b1, d1⟩ := aG_int g1
  dsimp only at b1 d1
  obtain ⟨x2, rfl, b2, d2⟩ := aG_int g2
  dsimp only at b2 d2
  obtain ⟨x3, rfl, b3, d3⟩ := aG_int g3
  dsimp only at b3 d3
  obtain ⟨m1, m2, m3, m4⟩ := hM0
  obtain ⟨T, hT⟩ := rTe_ex hH b0 d0
  clear m1 m2 m3 m4
  have q0 : rB K n p 212 [rR x0, rI x1, rI x2, rI x3] σ := ro_212.mpr ⟨_, hT, by
    intro j h1 h2
    omega⟩
  exact ⟨p, fun _ => rfl, ⟨(fun q h => by cases h), fun q h => (by cases h), (fun f h => by cases h), (aAllc ⟨_, rfl, (rF_b (r := 3396) (by decide) rfl).mpr q0⟩ (fun f h => by cases h))⟩, [], List.mem_cons_self, fun f h => (by cases h)⟩
theorem rw_rwKy {K : Nat → Nat} {n : Nat} {JX : (Nat → jcell) → Prop} : aGho (rF K n) fa_T K n JX ag_rwKy := by
  refine aGho_of ⟨rfl, rfl⟩ ?_
  intro p σ ρ hH hX hA hM0
  have hG := aAG_of hA.1 (fun i e v he hv => (hA.2 i e v he hv).1)
  clear hA
  obtain ⟨v0, v1, v2, v3, v4, v5, rfl, g0, g1, g2, g3, g4, g5⟩ := rA_6 hG
  clear hG
  obtain ⟨x0, rfl, b0, d0⟩ := rG_ref (by decide) g0
  obtain ⟨x1, rfl, b1, d1⟩ := aG_int g1
  dsimp only at b1 d1
  obtain ⟨x2, rfl, b2, d2⟩ := aG_int g2
  dsimp only at b2 d2
  obtain ⟨x3, rfl, b3, d3⟩ := aG_int g3
  dsimp only at b3 d3
  obtain ⟨x4, rfl, b4, d4⟩ := aG_int g4
  dsimp only at b4 d4
  obtain ⟨x5, rfl, b5, d5⟩ := rG_ref (by decide) g5
  obtain ⟨m1, m2, m3, m4⟩ := hM0
  obtain ⟨T, hT⟩ := rTe_ex hH b0 d0
  obtain ⟨a0, c0, fs0, w0, e1, s0, t0, e4⟩ := m1 (0, 24, 5) (List.mem_of_getElem? (i := 0) rfl)
  obtain rfl : x0 = a0 := Sum.inl.inj (Option.some.inj (Sum.inr.inj (Sum.inr.inj (Option.some.inj (show some (rR x0) = some _ from e1)))))
  obtain rfl : rR x5 = w0 := Option.some.inj (show some (rR x5) = some w0 from e4)
  clear e1 e4
  obtain ⟨a, mc0, ty0, gc0, ic0, e1, sc0, jc0, e4, e5⟩ := m2 (5, ([(2, 1)], 0), 3) (List.mem_of_getElem? (i := 0) rfl)
  obtain rfl : x5 = a := Sum.inl.inj (Option.some.inj (Sum.inr.inj (Sum.inr.inj (Option.some.inj (show some (rR x5) = some _ from e1)))))
  obtain ⟨gc0, rfl⟩ : ∃ g, gc0 = .inl g := by
    rcases gc0 with g | g
    · exact ⟨g, rfl⟩
    · exact absurd (show some (rI x3) = some (.inr (.inl (g ic0))) from e5) (fun h => by cases h)
  have sc0 : σ x5 = .inl (ty0, mc0, .inl gc0) := sc0
  have ec0 : x3 = gc0 ic0 := Sum.inl.inj (Option.some.inj (show some (rI x3) = some _ from e5))
  have kc0 : (ic0 : Int) = (1 * x2.toInt + 0) + 0 := by
    obtain ⟨z, e6, e7⟩ := e4
    obtain rfl : (1 * x2.toInt + 0) = z := Option.some.inj (show some (1 * x2.toInt + 0) = some z from e6)
    exact e7
  clear e1 e4 e5
  have l0 : 0 ≤ (1 * x4.toInt + (-8 * x1.toInt + 0)) + -6 := by
    obtain ⟨z, e6, e7⟩ := m3 ([(4, 1), (1, -8)], -6) (List.mem_of_getElem? (i := 0) rfl)
    obtain rfl : (1 * x4.toInt + (-8 * x1.toInt + 0)) = z := Option.some.inj (show some (1 * x4.toInt + (-8 * x1.toInt + 0)) = some z from e6)
    exact e7
  have l1 : 0 ≤ (-1 * x4.toInt + (8 * x1.toInt + 0)) + 6 := by
    obtain ⟨z, e6, e7⟩ := m3 ([(4, -1), (1, 8)], 6) (List.mem_of_getElem? (i := 1) rfl)
    obtain rfl : (-1 * x4.toInt + (8 * x1.toInt + 0)) = z := Option.some.inj (show some (-1 * x4.toInt + (8 * x1.toInt + 0)) = some z from e6)
    exact e7
  have l2 : 0 ≤ (1 * x3.toInt + (-1 * x4.toInt + 0)) + 0 := by
    obtain ⟨z, e6, e7⟩ := m3 ([(3, 1), (4, -1)], 0) (List.mem_of_getElem? (i := 2) rfl)
    obtain rfl : (1 * x3.toInt + (-1 * x4.toInt + 0)) = z := Option.some.inj (show some (1 * x3.toInt + (-1 * x4.toInt + 0)) = some z from e6)
    exact e7
  have l3 : 0 ≤ (-1 * x3.toInt + (1 * x4.toInt + 0)) + 0 := by
    obtain ⟨z, e6, e7⟩ := m3 ([(3, -1), (4, 1)], 0) (List.mem_of_getElem? (i := 3) rfl)
    obtain rfl : (-1 * x3.toInt + (1 * x4.toInt + 0)) = z := Option.some.inj (show some (-1 * x3.toInt + (1 * x4.toInt + 0)) = some z from e6)
    exact e7
  have y0 : T x2.toInt = x3.toInt := rMg_c hT s0 t0 sc0 (by omega) (by omega) (by omega) ec0
  clear m1 m2 m3 m4
  have q0 : rB K n p 213 [rR x0, rI x1, rI x2, rI x2] σ := ro_213.mpr ⟨_, hT, by
    intro j h1 h2 h3
    exact ⟨b2, d2, by omega⟩⟩
  exact ⟨p, fun _ => rfl, ⟨(fun q h => by cases h), fun q h => (by cases h), (fun f h => by cases h), (aAllc ⟨_, rfl, (rF_b (r := 3412) (by decide) rfl).mpr q0⟩ (fun f h => by cases h))⟩, [], List.mem_cons_self, fun f h => (by cases h)⟩
theorem rw_rwKnu {K : Nat → Nat} {n : Nat} {JX : (Nat → jcell) → Prop} : aGho (rF K n) fa_T K n JX ag_rwKnu := by
  refine aGho_of ⟨rfl, rfl⟩ ?_
  intro p σ ρ hH hX hA hM0
  have hG := aAG_of hA.1 (fun i e v he hv => (hA.2 i e v he hv).1)
  clear hA
  obtain ⟨v0, v1, v2, v3, v4, v5, v6, rfl, g0, g1, g2, g3, g4, g5, g6⟩ := rA_7 hG
  clear hG
  obtain ⟨x0, rfl, b0, d0⟩ := rG_ref (by decide) g0
  obtain ⟨x1, rfl, b1, d1⟩ := aG_int g1
  dsimp only at b1 d1
  obtain ⟨x2, rfl, b2, d2⟩ := aG_int g2
  dsimp only at b2 d2
  obtain ⟨x3, rfl, b3, d3⟩ := aG_int g3
  dsimp only at b3 d3
  obtain ⟨x4, rfl, b4, d4⟩ := aG_int g4
  dsimp only at b4 d4
  obtain ⟨x5, rfl, b5, d5⟩ := aG_int g5
  dsimp only at b5 d5
  obtain ⟨x6, rfl, b6, d6⟩ := rG_ref (by decide) g6
  obtain ⟨m1, m2, m3, m4⟩ := hM0
  obtain ⟨T, hT⟩ := rTe_ex hH b0 d0
  obtain ⟨a0, c0, fs0, w0, e1, s0, t0, e4⟩ := m1 (0, 24, 6) (List.mem_of_getElem? (i := 0) rfl)
  obtain rfl : x0 = a0 := Sum.inl.inj (Option.some.inj (Sum.inr.inj (Sum.inr.inj (Option.some.inj (show some (rR x0) = some _ from e1)))))
  obtain rfl : rR x6 = w0 := Option.some.inj (show some (rR x6) = some w0 from e4)
  clear e1 e4
  obtain ⟨a, mc0, ty0, gc0, ic0, e1, sc0, jc0, e4, e5⟩ := m2 (6, ([(2, 1)], 0), 3) (List.mem_of_getElem? (i := 0) rfl)
  obtain rfl : x6 = a := Sum.inl.inj (Option.some.inj (Sum.inr.inj (Sum.inr.inj (Option.some.inj (show some (rR x6) = some _ from e1)))))
  obtain ⟨gc0, rfl⟩ : ∃ g, gc0 = .inl g := by
    rcases gc0 with g | g
    · exact ⟨g, rfl⟩
    · exact absurd (show some (rI x3) = some (.inr (.inl (g ic0))) from e5) (fun h => by cases h)
  have sc0 : σ x6 = .inl (ty0, mc0, .inl gc0) := sc0
  have ec0 : x3 = gc0 ic0 := Sum.inl.inj (Option.some.inj (show some (rI x3) = some _ from e5))
  have kc0 : (ic0 : Int) = (1 * x2.toInt + 0) + 0 := by
    obtain ⟨z, e6, e7⟩ := e4
    obtain rfl : (1 * x2.toInt + 0) = z := Option.some.inj (show some (1 * x2.toInt + 0) = some z from e6)
    exact e7
  clear e1 e4 e5
  have l0 : 0 ≤ (1 * x4.toInt + (-8 * x1.toInt + 0)) + -6 := by
    obtain ⟨z, e6, e7⟩ := m3 ([(4, 1), (1, -8)], -6) (List.mem_of_getElem? (i := 0) rfl)
    obtain rfl : (1 * x4.toInt + (-8 * x1.toInt + 0)) = z := Option.some.inj (show some (1 * x4.toInt + (-8 * x1.toInt + 0)) = some z from e6)
    exact e7
  have l1 : 0 ≤ (-1 * x4.toInt + (8 * x1.toInt + 0)) + 6 := by
    obtain ⟨z, e6, e7⟩ := m3 ([(4, -1), (1, 8)], 6) (List.mem_of_getElem? (i := 1) rfl)
    obtain rfl : (-1 * x4.toInt + (8 * x1.toInt + 0)) = z := Option.some.inj (show some (-1 * x4.toInt + (8 * x1.toInt + 0)) = some z from e6)
    exact e7
  have l2 : 0 ≤ (1 * x3.toInt + (-1 * x4.toInt + 0)) + -1 := by
    obtain ⟨z, e6, e7⟩ := m3 ([(3, 1), (4, -1)], -1) (List.mem_of_getElem? (i := 2) rfl)
    obtain rfl : (1 * x3.toInt + (-1 * x4.toInt + 0)) = z := Option.some.inj (show some (1 * x3.toInt + (-1 * x4.toInt + 0)) = some z from e6)
    exact e7
  have y0 : T x2.toInt = x3.toInt := rMg_c hT s0 t0 sc0 (by omega) (by omega) (by omega) ec0
  have f0 : rB K n p 212 [rR x0, rI x1, rI x2, rI x5] σ := by
    obtain ⟨w, e6, e7⟩ := m4 (3396, [0, 1, 2, 5]) (List.mem_of_getElem? (i := 0) rfl)
    obtain rfl : [rR x0, rI x1, rI x2, rI x5] = w := Option.some.inj (show some [rR x0, rI x1, rI x2, rI x5] = some w from e6)
    exact (rF_b (r := 3396) (by decide) rfl).mp e7
  obtain ⟨M9, h9, f0⟩ := ro_212.mp f0
  obtain rfl := rMg_u hT h9
  clear h9
  clear m1 m2 m3 m4
  have q0 : rB K n p 213 [rR x0, rI x1, rI x2, rI x5] σ := ro_213.mpr ⟨_, hT, by
    intro j h1 h2 h3
    by_cases cj : j = x2.toInt
    · rw [cj] at h3; omega
    · exact f0 j h1 (by omega) h3⟩
  exact ⟨p, fun _ => rfl, ⟨(fun q h => by cases h), fun q h => (by cases h), (fun f h => by cases h), (aAllc ⟨_, rfl, (rF_b (r := 3412) (by decide) rfl).mpr q0⟩ (fun f h => by cases h))⟩, [], List.mem_cons_self, fun f h => (by cases h)⟩
theorem rw_rwKnd {K : Nat → Nat} {n : Nat} {JX : (Nat → jcell) → Prop} : aGho (rF K n) fa_T K n JX ag_rwKnd := by
  refine aGho_of ⟨rfl, rfl⟩ ?_
  intro p σ ρ hH hX hA hM0
  have hG := aAG_of hA.1 (fun i e v he hv => (hA.2 i e v he hv).1)
  clear hA
  obtain ⟨v0, v1, v2, v3, v4, v5, v6, rfl, g0, g1, g2, g3, g4, g5, g6⟩ := rA_7 hG
  clear hG
  obtain ⟨x0, rfl, b0, d0⟩ := rG_ref (by decide) g0
  obtain ⟨x1, rfl, b1, d1⟩ := aG_int g1
  dsimp only at b1 d1
  obtain ⟨x2, rfl, b2, d2⟩ := aG_int g2
  dsimp only at b2 d2
  obtain ⟨x3, rfl, b3, d3⟩ := aG_int g3
  dsimp only at b3 d3
  obtain ⟨x4, rfl, b4, d4⟩ := aG_int g4
  dsimp only at b4 d4
  obtain ⟨x5, rfl, b5, d5⟩ := aG_int g5
  dsimp only at b5 d5
  obtain ⟨x6, rfl, b6, d6⟩ := rG_ref (by decide) g6
  obtain ⟨m1, m2, m3, m4⟩ := hM0
  obtain ⟨T, hT⟩ := rTe_ex hH b0 d0
  obtain ⟨a0, c0, fs0, w0, e1, s0, t0, e4⟩ := m1 (0, 24, 6) (List.mem_of_getElem? (i := 0) rfl)
  obtain rfl : x0 = a0 := Sum.inl.inj (Option.some.inj (Sum.inr.inj (Sum.inr.inj (Option.some.inj (show some (rR x0) = some _ from e1)))))
  obtain rfl : rR x6 = w0 := Option.some.inj (show some (rR x6) = some w0 from e4)
  clear e1 e4
  obtain ⟨a, mc0, ty0, gc0, ic0, e1, sc0, jc0, e4, e5⟩ := m2 (6, ([(2, 1)], 0), 3) (List.mem_of_getElem? (i := 0) rfl)
  obtain rfl : x6 = a := Sum.inl.inj (Option.some.inj (Sum.inr.inj (Sum.inr.inj (Option.some.inj (show some (rR x6) = some _ from e1)))))
  obtain ⟨gc0, rfl⟩ : ∃ g, gc0 = .inl g := by
    rcases gc0 with g | g
    · exact ⟨g, rfl⟩
    · exact absurd (show some (rI x3) = some (.inr (.inl (g ic0))) from e5) (fun h => by cases h)
  have sc0 : σ x6 = .inl (ty0, mc0, .inl gc0) := sc0
  have ec0 : x3 = gc0 ic0 := Sum.inl.inj (Option.some.inj (show some (rI x3) = some _ from e5))
  have kc0 : (ic0 : Int) = (1 * x2.toInt + 0) + 0 := by
    obtain ⟨z, e6, e7⟩ := e4
    obtain rfl : (1 * x2.toInt + 0) = z := Option.some.inj (show some (1 * x2.toInt + 0) = some z from e6)
    exact e7
  clear e1 e4 e5
  have l0 : 0 ≤ (1 * x4.toInt + (-8 * x1.toInt + 0)) + -6 := by
    obtain ⟨z, e6, e7⟩ := m3 ([(4, 1), (1, -8)], -6) (List.mem_of_getElem? (i := 0) rfl)
    obtain rfl : (1 * x4.toInt + (-8 * x1.toInt + 0)) = z := Option.some.inj (show some (1 * x4.toInt + (-8 * x1.toInt + 0)) = some z from e6)
    exact e7
  have l1 : 0 ≤ (-1 * x4.toInt + (8 * x1.toInt + 0)) + 6 := by
    obtain ⟨z, e6, e7⟩ := m3 ([(4, -1), (1, 8)], 6) (List.mem_of_getElem? (i := 1) rfl)
    obtain rfl : (-1 * x4.toInt + (8 * x1.toInt + 0)) = z := Option.some.inj (show some (-1 * x4.toInt + (8 * x1.toInt + 0)) = some z from e6)
    exact e7
  have l2 : 0 ≤ (-1 * x3.toInt + (1 * x4.toInt + 0)) + -1 := by
    obtain ⟨z, e6, e7⟩ := m3 ([(3, -1), (4, 1)], -1) (List.mem_of_getElem? (i := 2) rfl)
    obtain rfl : (-1 * x3.toInt + (1 * x4.toInt + 0)) = z := Option.some.inj (show some (-1 * x3.toInt + (1 * x4.toInt + 0)) = some z from e6)
    exact e7
  have y0 : T x2.toInt = x3.toInt := rMg_c hT s0 t0 sc0 (by omega) (by omega) (by omega) ec0
  have f0 : rB K n p 212 [rR x0, rI x1, rI x2, rI x5] σ := by
    obtain ⟨w, e6, e7⟩ := m4 (3396, [0, 1, 2, 5]) (List.mem_of_getElem? (i := 0) rfl)
    obtain rfl : [rR x0, rI x1, rI x2, rI x5] = w := Option.some.inj (show some [rR x0, rI x1, rI x2, rI x5] = some w from e6)
    exact (rF_b (r := 3396) (by decide) rfl).mp e7
  obtain ⟨M9, h9, f0⟩ := ro_212.mp f0
  obtain rfl := rMg_u hT h9
  clear h9
  clear m1 m2 m3 m4
  have q0 : rB K n p 213 [rR x0, rI x1, rI x2, rI x5] σ := ro_213.mpr ⟨_, hT, by
    intro j h1 h2 h3
    by_cases cj : j = x2.toInt
    · rw [cj] at h3; omega
    · exact f0 j h1 (by omega) h3⟩
  exact ⟨p, fun _ => rfl, ⟨(fun q h => by cases h), fun q h => (by cases h), (fun f h => by cases h), (aAllc ⟨_, rfl, (rF_b (r := 3412) (by decide) rfl).mpr q0⟩ (fun f h => by cases h))⟩, [], List.mem_cons_self, fun f h => (by cases h)⟩
theorem rw_rwKs {K : Nat → Nat} {n : Nat} {JX : (Nat → jcell) → Prop} : aGho (rF K n) fa_T K n JX ag_rwKs := by
  refine aGho_of ⟨rfl, rfl⟩ ?_
  intro p σ ρ hH hX hA hM0
  have hG := aAG_of hA.1 (fun i e v he hv => (hA.2 i e v he hv).1)
  clear hA
  obtain ⟨v0, v1, v2, v3, v4, rfl, g0, g1, g2, g3, g4⟩ := rA_5 hG
  clear hG
  obtain ⟨x0, rfl, b0, d0⟩ := rG_ref (by decide) g0
  obtain ⟨x1, rfl, b1, d1⟩ := aG_int g1
  dsimp only at b1 d1
  obtain ⟨x2, rfl, b2, d2⟩ := aG_int g2
  dsimp only at b2 d2
  obtain ⟨x3, rfl, b3, d3⟩ := aG_int g3
  dsimp only at b3 d3
  obtain ⟨x4, rfl, b4, d4⟩ := aG_int g4
  dsimp only at b4 d4
  obtain ⟨m1, m2, m3, m4⟩ := hM0
  obtain ⟨T, hT⟩ := rTe_ex hH b0 d0
  have l0 : 0 ≤ (1 * x4.toInt + (-1 * x2.toInt + 0)) + -1 := by
    obtain ⟨z, e6, e7⟩ := m3 ([(4, 1), (2, -1)], -1) (List.mem_of_getElem? (i := 0) rfl)
    obtain rfl : (1 * x4.toInt + (-1 * x2.toInt + 0)) = z := Option.some.inj (show some (1 * x4.toInt + (-1 * x2.toInt + 0)) = some z from e6)
    exact e7
  have l1 : 0 ≤ (-1 * x4.toInt + (1 * x2.toInt + 0)) + 1 := by
    obtain ⟨z, e6, e7⟩ := m3 ([(4, -1), (2, 1)], 1) (List.mem_of_getElem? (i := 1) rfl)
    obtain rfl : (-1 * x4.toInt + (1 * x2.toInt + 0)) = z := Option.some.inj (show some (-1 * x4.toInt + (1 * x2.toInt + 0)) = some z from e6)
    exact e7
  have f0 : rB K n p 213 [rR x0, rI x1, rI x2, rI x3] σ := by
    obtain ⟨w, e6, e7⟩ := m4 (3412, [0, 1, 2, 3]) (List.mem_of_getElem? (i := 0) rfl)
    obtain rfl : [rR x0, rI x1, rI x2, rI x3] = w := Option.some.inj (show some [rR x0, rI x1, rI x2, rI x3] = some w from e6)
    exact (rF_b (r := 3412) (by decide) rfl).mp e7
  obtain ⟨M9, h9, f0⟩ := ro_213.mp f0
  obtain rfl := rMg_u hT h9
  clear h9
  clear m1 m2 m3 m4
  have q0 : rB K n p 212 [rR x0, rI x1, rI x4, rI x3] σ := ro_212.mpr ⟨_, hT, by
    intro j h1 h2 h3
    exact f0 j h1 (by omega) h3⟩
  exact ⟨p, fun _ => rfl, ⟨(fun q h => by cases h), fun q h => (by cases h), (fun f h => by cases h), (aAllc ⟨_, rfl, (rF_b (r := 3396) (by decide) rfl).mpr q0⟩ (fun f h => by cases h))⟩, [], List.mem_cons_self, fun f h => (by cases h)⟩
theorem rw_rwKe {K : Nat → Nat} {n : Nat} {JX : (Nat → jcell) → Prop} : aGho (rF K n) fa_T K n JX ag_rwKe := by
  refine aGho_of ⟨rfl, rfl⟩ ?_
  intro p σ ρ hH hX hA hM0
  have hG := aAG_of hA.1 (fun i e v he hv => (hA.2 i e v he hv).1)
  clear hA
  obtain ⟨v0, v1, v2, v3, rfl, g0, g1, g2, g3⟩ := rA_4 hG
  clear hG
  obtain ⟨x0, rfl, b0, d0⟩ := rG_ref (by decide) g0
  obtain ⟨x1, rfl, b1, d1⟩ := aG_int g1
  dsimp only at b1 d1
  obtain ⟨x2, rfl, b2, d2⟩ := aG_int g2
  dsimp only at b2 d2
  obtain ⟨x3, rfl, b3, d3⟩ := aG_int g3
  dsimp only at b3 d3
  obtain ⟨m1, m2, m3, m4⟩ := hM0
  obtain ⟨T, hT⟩ := rTe_ex hH b0 d0
  have f0 : rB K n p 212 [rR x0, rI x1, rI x2, rI x3] σ := by
    obtain ⟨w, e6, e7⟩ := m4 (3396, [0, 1, 2, 3]) (List.mem_of_getElem? (i := 0) rfl)
    obtain rfl : [rR x0, rI x1, rI x2, rI x3] = w := Option.some.inj (show some [rR x0, rI x1, rI x2, rI x3] = some w from e6)
    exact (rF_b (r := 3396) (by decide) rfl).mp e7
  obtain ⟨M9, h9, f0⟩ := ro_212.mp f0
  obtain rfl := rMg_u hT h9
  clear h9
  clear m1 m2 m3 m4
  have q0 : rB K n p 214 [rR x0, rI x1, rI x3] σ := ro_214.mpr ⟨_, hT, by
    intro j h1 h2 h3
    exact f0 j h1 (by omega) h3⟩
  exact ⟨p, fun _ => rfl, ⟨(fun q h => by cases h), fun q h => (by cases h), (fun f h => by cases h), (aAllc ⟨_, rfl, (rF_b (r := 3427) (by decide) rfl).mpr q0⟩ (fun f h => by cases h))⟩, [], List.mem_cons_self, fun f h => (by cases h)⟩
theorem rw_rwIC {K : Nat → Nat} {n : Nat} {JX : (Nat → jcell) → Prop} : aGho (rF K n) fa_T K n JX ag_rwIC := by
  refine aGho_of ⟨rfl, rfl⟩ ?_
  intro p σ ρ hH hX hA hM0
  have hG := aAG_of hA.1 (fun i e v he hv => (hA.2 i e v he hv).1)
  clear hA
  obtain ⟨v0, v1, v2, v3, v4, rfl, g0, g1, g2, g3, g4⟩ := rA_5 hG
  clear hG
  obtain ⟨x0, rfl, b0, d0⟩ := rG_ref (by decide) g0
  obtain ⟨x1, rfl, b1, d1⟩ := aG_int g1
  dsimp only at b1 d1
  obtain ⟨x2, rfl, b2, d2⟩ := aG_int g2
  dsimp only at b2 d2
  obtain ⟨x3, rfl, b3, d3⟩ := aG_int g3
  dsimp only at b3 d3
  obtain ⟨x4, rfl, b4, d4⟩ := aG_int g4
  dsimp only at b4 d4
  obtain ⟨m1, m2, m3, m4⟩ := hM0
  obtain ⟨T, hT⟩ := rTe_ex hH b0 d0
  have l0 : 0 ≤ (1 * x3.toInt + (1 * x1.toInt + 0)) + -1 := by
    obtain ⟨z, e6, e7⟩ := m3 ([(3, 1), (1, 1)], -1) (List.mem_of_getElem? (i := 0) rfl)
    obtain rfl : (1 * x3.toInt + (1 * x1.toInt + 0)) = z := Option.some.inj (show some (1 * x3.toInt + (1 * x1.toInt + 0)) = some z from e6)
    exact e7
  have l1 : 0 ≤ (-1 * x3.toInt + (-1 * x1.toInt + 0)) + 1 := by
    obtain ⟨z, e6, e7⟩ := m3 ([(3, -1), (1, -1)], 1) (List.mem_of_getElem? (i := 1) rfl)
    obtain rfl : (-1 * x3.toInt + (-1 * x1.toInt + 0)) = z := Option.some.inj (show some (-1 * x3.toInt + (-1 * x1.toInt + 0)) = some z from e6)
    exact e7
  have f0 : rB K n p 214 [rR x0, rI x1, rI x2] σ := by
    obtain ⟨w, e6, e7⟩ := m4 (3427, [0, 1, 2]) (List.mem_of_getElem? (i := 0) rfl)
    obtain rfl : [rR x0, rI x1, rI x2] = w := Option.some.inj (show some [rR x0, rI x1, rI x2] = some w from e6)
    exact (rF_b (r := 3427) (by decide) rfl).mp e7
  obtain ⟨M9, h9, f0⟩ := ro_214.mp f0
  obtain rfl := rMg_u hT h9
  clear h9
  have f1 : rB K n p 204 [rR x0, rI x2, rI x3, rI x4] σ := by
    obtain ⟨w, e6, e7⟩ := m4 (3268, [0, 2, 3, 4]) (List.mem_of_getElem? (i := 1) rfl)
    obtain rfl : [rR x0, rI x2, rI x3, rI x4] = w := Option.some.inj (show some [rR x0, rI x2, rI x3, rI x4] = some w from e6)
    exact (rF_b (r := 3268) (by decide) rfl).mp e7
  obtain ⟨M9, h9, f1⟩ := ro_204.mp f1
  obtain rfl := rMg_u hT h9
  clear h9
  clear m1 m2 m3 m4
  have q0 : rB K n p 215 [rR x0, rI x1, rI x4] σ := ro_215.mpr ⟨_, hT, by
    intro h9 j h1 h2 h3
    obtain ⟨k1, k2, k3⟩ := f0 j h1 h2 h3
    exact ⟨x2.toInt, k1, k2, k3, by rw [show 1 - x1.toInt = x3.toInt by omega]; exact f1 h9⟩⟩
  exact ⟨p, fun _ => rfl, ⟨(fun q h => by cases h), fun q h => (by cases h), (fun f h => by cases h), (aAllc ⟨_, rfl, (rF_b (r := 3443) (by decide) rfl).mpr q0⟩ (fun f h => by cases h))⟩, [], List.mem_cons_self, fun f h => (by cases h)⟩
theorem rw_rwKP0 {K : Nat → Nat} {n : Nat} {JX : (Nat → jcell) → Prop} : aGho (rF K n) fa_T K n JX ag_rwKP0 := by
  refine aGho_of ⟨rfl, rfl⟩ ?_
  intro p σ ρ hH hX hA hM0
  have hG := aAG_of hA.1 (fun i e v he hv => (hA.2 i e v he hv).1)
  clear hA
  obtain ⟨v0, v1, rfl, g0, g1⟩ := rA_2 hG
  clear hG
  obtain ⟨x0, rfl, b0, d0⟩ := rG_ref (by decide) g0
  obtain ⟨x1, rfl, b1, d1⟩ := aG_int g1
  dsimp only at b1 d1
  obtain ⟨m1, m2, m3, m4⟩ := hM0
  obtain ⟨T, hT⟩ := rTe_ex hH b0 d0
  clear m1 m2 m3 m4
  have q0 : rB K n p 402 [rR x0, rI x1] σ := ro_402.mpr (by
    obtain ⟨g, h⟩ := rRo_ex (ko := 62) (f := 30) (kr := 83) (len := 64) hH rfl rfl rfl (by decide) b0 d0
    exact ⟨g, h, fun j h1 h2 => by omega⟩)
  exact ⟨p, fun _ => rfl, ⟨(fun q h => by cases h), fun q h => (by cases h), (fun f h => by cases h), (aAllc ⟨_, rfl, (rF_b (r := 6434) (by decide) rfl).mpr q0⟩ (fun f h => by cases h))⟩, [], List.mem_cons_self, fun f h => (by cases h)⟩
theorem rw_rwKPs {K : Nat → Nat} {n : Nat} {JX : (Nat → jcell) → Prop} : aGho (rF K n) fa_T K n JX ag_rwKPs := by
  refine aGho_of ⟨rfl, rfl⟩ ?_
  intro p σ ρ hH hX hA hM0
  have hG := aAG_of hA.1 (fun i e v he hv => (hA.2 i e v he hv).1)
  clear hA
  obtain ⟨v0, v1, v2, v3, v4, rfl, g0, g1, g2, g3, g4⟩ := rA_5 hG
  clear hG
  obtain ⟨x0, rfl, b0, d0⟩ := rG_ref (by decide) g0
  obtain ⟨x1, rfl, b1, d1⟩ := rG_ref (by decide) g1
  obtain ⟨x2, rfl, b2, d2⟩ := aG_int g2
  dsimp only at b2 d2
  obtain ⟨x3, rfl, b3, d3⟩ := aG_int g3
  dsimp only at b3 d3
  obtain ⟨x4, rfl, b4, d4⟩ := rG_ref (by decide) g4
  obtain ⟨m1, m2, m3, m4⟩ := hM0
  obtain ⟨T, hT⟩ := rTe_ex hH b0 d0
  obtain ⟨a0, c0, fs0, w0, e1, s0, t0, e4⟩ := m1 (0, 24, 4) (List.mem_of_getElem? (i := 0) rfl)
  obtain rfl : x0 = a0 := Sum.inl.inj (Option.some.inj (Sum.inr.inj (Sum.inr.inj (Option.some.inj (show some (rR x0) = some _ from e1)))))
  obtain rfl : rR x4 = w0 := Option.some.inj (show some (rR x4) = some w0 from e4)
  clear e1 e4
  obtain ⟨a1, c1, fs1, w1, e1, s1, t1, e4⟩ := m1 (0, 30, 1) (List.mem_of_getElem? (i := 1) rfl)
  obtain rfl : x0 = a1 := Sum.inl.inj (Option.some.inj (Sum.inr.inj (Sum.inr.inj (Option.some.inj (show some (rR x0) = some _ from e1)))))
  obtain rfl : rR x1 = w1 := Option.some.inj (show some (rR x1) = some w1 from e4)
  clear e1 e4
  obtain ⟨a, mc0, ty0, gc0, ic0, e1, sc0, jc0, e4, e5⟩ := m2 (4, ([(2, 1)], 0), 3) (List.mem_of_getElem? (i := 0) rfl)
  obtain rfl : x4 = a := Sum.inl.inj (Option.some.inj (Sum.inr.inj (Sum.inr.inj (Option.some.inj (show some (rR x4) = some _ from e1)))))
  obtain ⟨gc0, rfl⟩ : ∃ g, gc0 = .inl g := by
    rcases gc0 with g | g
    · exact ⟨g, rfl⟩
    · exact absurd (show some (rI x3) = some (.inr (.inl (g ic0))) from e5) (fun h => by cases h)
  have sc0 : σ x4 = .inl (ty0, mc0, .inl gc0) := sc0
  have ec0 : x3 = gc0 ic0 := Sum.inl.inj (Option.some.inj (show some (rI x3) = some _ from e5))
  have kc0 : (ic0 : Int) = (1 * x2.toInt + 0) + 0 := by
    obtain ⟨z, e6, e7⟩ := e4
    obtain rfl : (1 * x2.toInt + 0) = z := Option.some.inj (show some (1 * x2.toInt + 0) = some z from e6)
    exact e7
  clear e1 e4 e5
  have y0 : T x2.toInt = x3.toInt := rMg_c hT s0 t0 sc0 (by omega) (by omega) (by omega) ec0
  have f0 : rB K n p 400 [rR x0] σ := by
    obtain ⟨w, e6, e7⟩ := m4 (6401, [0]) (List.mem_of_getElem? (i := 0) rfl)
    obtain rfl : [rR x0] = w := Option.some.inj (show some [rR x0] = some w from e6)
    exact (rF_b (r := 6401) (by decide) rfl).mp e7
  obtain ⟨hp, hR⟩ := ro_400.mp f0
  obtain rfl := rMg_u hT hR.1
  have f1 : rB K n p 402 [rR x0, rI x2] σ := by
    obtain ⟨w, e6, e7⟩ := m4 (6434, [0, 2]) (List.mem_of_getElem? (i := 1) rfl)
    obtain rfl : [rR x0, rI x2] = w := Option.some.inj (show some [rR x0, rI x2] = some w from e6)
    exact (rF_b (r := 6434) (by decide) rfl).mp e7
  have f1 := ro_402.mp f1
  clear m1 m2 m3 m4
  have q0 : rB K n p 403 [rR x0, rI x2] (jup σ x1 (jsto (σ x1) x2.toNatClampNeg x3)) := ro_403.mpr (by
    obtain ⟨g, h, k⟩ := f1
    refine ⟨_, rRo_up h s1 t1, fun j h1 h2 h3 => ?_⟩
    have hi : x2.toNatClampNeg = x2.toInt.toNat := rfl
    unfold upd
    by_cases cj : j = x2.toInt
    · rw [if_pos (by rw [hi]; omega), cj]
      exact y0.symm
    · rw [if_neg (by rw [hi]; omega)]
      exact k j h1 (by omega) h3)
  exact ⟨p, fun _ => rfl, ⟨(fun q h => by cases h), fun q h => (by cases h), (fun f h => by cases h), (aAllc ⟨_, rfl, rF_p (r := 6450) (by decide) (by decide) q0⟩ (fun f h => by cases h))⟩, [], List.mem_cons_self, fun f h => (by cases h)⟩
theorem rw_rwKPn {K : Nat → Nat} {n : Nat} {JX : (Nat → jcell) → Prop} : aGho (rF K n) fa_T K n JX ag_rwKPn := by
  refine aGho_of ⟨rfl, rfl⟩ ?_
  intro p σ ρ hH hX hA hM0
  have hG := aAG_of hA.1 (fun i e v he hv => (hA.2 i e v he hv).1)
  clear hA
  obtain ⟨v0, v1, v2, rfl, g0, g1, g2⟩ := rA_3 hG
  clear hG
  obtain ⟨x0, rfl, b0, d0⟩ := rG_ref (by decide) g0
  obtain ⟨x1, rfl, b1, d1⟩ := aG_int g1
  dsimp only at b1 d1
  obtain ⟨x2, rfl, b2, d2⟩ := aG_int g2
  dsimp only at b2 d2
  obtain ⟨m1, m2, m3, m4⟩ := hM0
  obtain ⟨T, hT⟩ := rTe_ex hH b0 d0
  have l0 : 0 ≤ (1 * x2.toInt + (-1 * x1.toInt + 0)) + -1 := by
    obtain ⟨z, e6, e7⟩ := m3 ([(2, 1), (1, -1)], -1) (List.mem_of_getElem? (i := 0) rfl)
    obtain rfl : (1 * x2.toInt + (-1 * x1.toInt + 0)) = z := Option.some.inj (show some (1 * x2.toInt + (-1 * x1.toInt + 0)) = some z from e6)
    exact e7
  have l1 : 0 ≤ (-1 * x2.toInt + (1 * x1.toInt + 0)) + 1 := by
    obtain ⟨z, e6, e7⟩ := m3 ([(2, -1), (1, 1)], 1) (List.mem_of_getElem? (i := 1) rfl)
    obtain rfl : (-1 * x2.toInt + (1 * x1.toInt + 0)) = z := Option.some.inj (show some (-1 * x2.toInt + (1 * x1.toInt + 0)) = some z from e6)
    exact e7
  have f0 : rB K n p 403 [rR x0, rI x1] σ := by
    obtain ⟨w, e6, e7⟩ := m4 (6450, [0, 1]) (List.mem_of_getElem? (i := 0) rfl)
    obtain rfl : [rR x0, rI x1] = w := Option.some.inj (show some [rR x0, rI x1] = some w from e6)
    exact (rF_b (r := 6450) (by decide) rfl).mp e7
  have f0 := ro_403.mp f0
  clear m1 m2 m3 m4
  have q0 : rB K n p 402 [rR x0, rI x2] σ := ro_402.mpr (by
    rw [show x2.toInt = x1.toInt + 1 by omega]
    exact f0)
  exact ⟨p, fun _ => rfl, ⟨(fun q h => by cases h), fun q h => (by cases h), (fun f h => by cases h), (aAllc ⟨_, rfl, (rF_b (r := 6434) (by decide) rfl).mpr q0⟩ (fun f h => by cases h))⟩, [], List.mem_cons_self, fun f h => (by cases h)⟩
theorem rw_rwKR0 {K : Nat → Nat} {n : Nat} {JX : (Nat → jcell) → Prop} : aGho (rF K n) fa_T K n JX ag_rwKR0 := by
  refine aGho_of ⟨rfl, rfl⟩ ?_
  intro p σ ρ hH hX hA hM0
  have hG := aAG_of hA.1 (fun i e v he hv => (hA.2 i e v he hv).1)
  clear hA
  obtain ⟨v0, v1, v2, v3, rfl, g0, g1, g2, g3⟩ := rA_4 hG
  clear hG
  obtain ⟨x0, rfl, b0, d0⟩ := rG_ref (by decide) g0
  obtain ⟨x1, rfl, b1, d1⟩ := rG_ref (by decide) g1
  obtain ⟨x2, rfl, b2, d2⟩ := aG_int g2
  dsimp only at b2 d2
  obtain ⟨x3, rfl, b3, d3⟩ := aG_int g3
  dsimp only at b3 d3
  obtain ⟨m1, m2, m3, m4⟩ := hM0
  obtain ⟨T, hT⟩ := rTe_ex hH b0 d0
  obtain ⟨a0, c0, fs0, w0, e1, s0, t0, e4⟩ := m1 (0, 31, 1) (List.mem_of_getElem? (i := 0) rfl)
  obtain rfl : x0 = a0 := Sum.inl.inj (Option.some.inj (Sum.inr.inj (Sum.inr.inj (Option.some.inj (show some (rR x0) = some _ from e1)))))
  obtain rfl : rR x1 = w0 := Option.some.inj (show some (rR x1) = some w0 from e4)
  clear e1 e4
  obtain ⟨a1, c1, fs1, w1, e1, s1, t1, e4⟩ := m1 (0, 25, 3) (List.mem_of_getElem? (i := 1) rfl)
  obtain rfl : x0 = a1 := Sum.inl.inj (Option.some.inj (Sum.inr.inj (Sum.inr.inj (Option.some.inj (show some (rR x0) = some _ from e1)))))
  obtain rfl : rI x3 = w1 := Option.some.inj (show some (rI x3) = some w1 from e4)
  clear e1 e4
  have f0 : rB K n p 400 [rR x0] σ := by
    obtain ⟨w, e6, e7⟩ := m4 (6401, [0]) (List.mem_of_getElem? (i := 0) rfl)
    obtain rfl : [rR x0] = w := Option.some.inj (show some [rR x0] = some w from e6)
    exact (rF_b (r := 6401) (by decide) rfl).mp e7
  obtain ⟨hp, hR⟩ := ro_400.mp f0
  obtain rfl := rMg_u hT hR.1
  have uS : p.1.2.1 = x3.toInt := rTX_f hR.2.1 s1 t1
  clear m1 m2 m3 m4
  have q0 : rB K n p 420 [rR x0] (jup σ x1 (jsto (σ x1) x2.toNatClampNeg x3)) := ro_420.mpr (by
    refine ⟨hp, rZ_of hT, ?_⟩
    obtain ⟨g, h⟩ := rRo_of (k := 62) (f := 31) hH b0 d0 s0 t0 b1 d1 rfl
    refine ⟨_, rRo_up h s0 t0, ?_⟩
    have hi : x2.toNatClampNeg = x2.toInt.toNat := rfl
    unfold upd
    rw [if_pos (by rw [hi]; omega)]
    exact uS.symm)
  exact ⟨p, fun _ => rfl, ⟨(fun q h => by cases h), fun q h => (by cases h), (fun f h => by cases h), (aAllc ⟨_, rfl, rF_p (r := 6721) (by decide) (by decide) q0⟩ (fun f h => by cases h))⟩, [], List.mem_cons_self, fun f h => (by cases h)⟩
theorem rw_rwBR0 {K : Nat → Nat} {n : Nat} {JX : (Nat → jcell) → Prop} : aGho (rF K n) fa_T K n JX ag_rwBR0 := by
  refine aGho_of ⟨rfl, rfl⟩ ?_
  intro p σ ρ hH hX hA hM0
  have hG := aAG_of hA.1 (fun i e v he hv => (hA.2 i e v he hv).1)
  clear hA
  obtain ⟨v0, v1, v2, v3, rfl, g0, g1, g2, g3⟩ := rA_4 hG
  clear hG
  obtain ⟨x0, rfl, b0, d0⟩ := rG_ref (by decide) g0
  obtain ⟨x1, rfl, b1, d1⟩ := rG_ref (by decide) g1
  obtain ⟨x2, rfl, b2, d2⟩ := aG_int g2
  dsimp only at b2 d2
  obtain ⟨x3, rfl, b3, d3⟩ := aG_int g3
  dsimp only at b3 d3
  obtain ⟨m1, m2, m3, m4⟩ := hM0
  obtain ⟨T, hT⟩ := rTe_ex hH b0 d0
  obtain ⟨a0, c0, fs0, w0, e1, s0, t0, e4⟩ := m1 (0, 31, 1) (List.mem_of_getElem? (i := 0) rfl)
  obtain rfl : x0 = a0 := Sum.inl.inj (Option.some.inj (Sum.inr.inj (Sum.inr.inj (Option.some.inj (show some (rR x0) = some _ from e1)))))
  obtain rfl : rR x1 = w0 := Option.some.inj (show some (rR x1) = some w0 from e4)
  clear e1 e4
  obtain ⟨a, mc0, ty0, gc0, ic0, e1, sc0, jc0, e4, e5⟩ := m2 (1, ([], 0), 3) (List.mem_of_getElem? (i := 0) rfl)
  obtain rfl : x1 = a := Sum.inl.inj (Option.some.inj (Sum.inr.inj (Sum.inr.inj (Option.some.inj (show some (rR x1) = some _ from e1)))))
  obtain ⟨gc0, rfl⟩ : ∃ g, gc0 = .inl g := by
    rcases gc0 with g | g
    · exact ⟨g, rfl⟩
    · exact absurd (show some (rI x3) = some (.inr (.inl (g ic0))) from e5) (fun h => by cases h)
  have sc0 : σ x1 = .inl (ty0, mc0, .inl gc0) := sc0
  have ec0 : x3 = gc0 ic0 := Sum.inl.inj (Option.some.inj (show some (rI x3) = some _ from e5))
  have kc0 : (ic0 : Int) = 0 + 0 := by
    obtain ⟨z, e6, e7⟩ := e4
    obtain rfl : 0 = z := Option.some.inj (show some 0 = some z from e6)
    exact e7
  clear e1 e4 e5
  have f0 : rB K n p 401 [rR x0] σ := by
    obtain ⟨w, e6, e7⟩ := m4 (6417, [0]) (List.mem_of_getElem? (i := 0) rfl)
    obtain rfl : [rR x0] = w := Option.some.inj (show some [rR x0] = some w from e6)
    exact (rF_b (r := 6417) (by decide) rfl).mp e7
  have f0 := ro_401.mp f0
  clear m1 m2 m3 m4
  have q0 : rB K n p 417 [rI x3] σ := ro_417.mpr (by
    obtain ⟨hp, hz, -, g2, r2, k2⟩ := f0
    have e1 := rRo_c (i := ic0) r2 s0 t0 sc0 ec0
    rw [show ic0 = 0 by omega] at e1
    exact ⟨hp, hz, (e1.symm.trans k2.1)⟩)
  exact ⟨p, fun _ => rfl, ⟨(fun q h => by cases h), fun q h => (by cases h), (fun f h => by cases h), (aAllc ⟨_, rfl, (rF_b (r := 6673) (by decide) rfl).mpr q0⟩ (fun f h => by cases h))⟩, [], List.mem_cons_self, fun f h => (by cases h)⟩
theorem rw_rwKR1 {K : Nat → Nat} {n : Nat} {JX : (Nat → jcell) → Prop} : aGho (rF K n) fa_T K n JX ag_rwKR1 := by
  refine aGho_of ⟨rfl, rfl⟩ ?_
  intro p σ ρ hH hX hA hM0
  have hG := aAG_of hA.1 (fun i e v he hv => (hA.2 i e v he hv).1)
  clear hA
  obtain ⟨v0, v1, v2, v3, rfl, g0, g1, g2, g3⟩ := rA_4 hG
  clear hG
  obtain ⟨x0, rfl, b0, d0⟩ := rG_ref (by decide) g0
  obtain ⟨x1, rfl, b1, d1⟩ := rG_ref (by decide) g1
  obtain ⟨x2, rfl, b2, d2⟩ := aG_int g2
  dsimp only at b2 d2
  obtain ⟨x3, rfl, b3, d3⟩ := aG_int g3
  dsimp only at b3 d3
  obtain ⟨m1, m2, m3, m4⟩ := hM0
  obtain ⟨T, hT⟩ := rTe_ex hH b0 d0
  obtain ⟨a0, c0, fs0, w0, e1, s0, t0, e4⟩ := m1 (0, 31, 1) (List.mem_of_getElem? (i := 0) rfl)
  obtain rfl : x0 = a0 := Sum.inl.inj (Option.some.inj (Sum.inr.inj (Sum.inr.inj (Option.some.inj (show some (rR x0) = some _ from e1)))))
  obtain rfl : rR x1 = w0 := Option.some.inj (show some (rR x1) = some w0 from e4)
  clear e1 e4
  obtain ⟨a1, c1, fs1, w1, e1, s1, t1, e4⟩ := m1 (0, 26, 3) (List.mem_of_getElem? (i := 1) rfl)
  obtain rfl : x0 = a1 := Sum.inl.inj (Option.some.inj (Sum.inr.inj (Sum.inr.inj (Option.some.inj (show some (rR x0) = some _ from e1)))))
  obtain rfl : rI x3 = w1 := Option.some.inj (show some (rI x3) = some w1 from e4)
  clear e1 e4
  have f0 : rB K n p 400 [rR x0] σ := by
    obtain ⟨w, e6, e7⟩ := m4 (6401, [0]) (List.mem_of_getElem? (i := 0) rfl)
    obtain rfl : [rR x0] = w := Option.some.inj (show some [rR x0] = some w from e6)
    exact (rF_b (r := 6401) (by decide) rfl).mp e7
  obtain ⟨hp, hR⟩ := ro_400.mp f0
  obtain rfl := rMg_u hT hR.1
  have uR : p.1.2.2.1 = x3.toInt := rTX_f hR.2.2.1 s1 t1
  clear m1 m2 m3 m4
  have q0 : rB K n p 421 [rR x0] (jup σ x1 (jsto (σ x1) x2.toNatClampNeg x3)) := ro_421.mpr (by
    refine ⟨hp, rZ_of hT, ?_⟩
    obtain ⟨g, h⟩ := rRo_of (k := 62) (f := 31) hH b0 d0 s0 t0 b1 d1 rfl
    refine ⟨_, rRo_up h s0 t0, ?_⟩
    have hi : x2.toNatClampNeg = x2.toInt.toNat := rfl
    unfold upd
    rw [if_pos (by rw [hi]; omega)]
    exact uR.symm)
  exact ⟨p, fun _ => rfl, ⟨(fun q h => by cases h), fun q h => (by cases h), (fun f h => by cases h), (aAllc ⟨_, rfl, rF_p (r := 6737) (by decide) (by decide) q0⟩ (fun f h => by cases h))⟩, [], List.mem_cons_self, fun f h => (by cases h)⟩
theorem rw_rwBR1 {K : Nat → Nat} {n : Nat} {JX : (Nat → jcell) → Prop} : aGho (rF K n) fa_T K n JX ag_rwBR1 := by
  refine aGho_of ⟨rfl, rfl⟩ ?_
  intro p σ ρ hH hX hA hM0
  have hG := aAG_of hA.1 (fun i e v he hv => (hA.2 i e v he hv).1)
  clear hA
  obtain ⟨v0, v1, v2, v3, rfl, g0, g1, g2, g3⟩ := rA_4 hG
  clear hG
  obtain ⟨x0, rfl, b0, d0⟩ := rG_ref (by decide) g0
  obtain ⟨x1, rfl, b1, d1⟩ := rG_ref (by decide) g1
  obtain ⟨x2, rfl, b2, d2⟩ := aG_int g2
  dsimp only at b2 d2
  obtain ⟨x3, rfl, b3, d3⟩ := aG_int g3
  dsimp only at b3 d3
  obtain ⟨m1, m2, m3, m4⟩ := hM0
  obtain ⟨T, hT⟩ := rTe_ex hH b0 d0
  obtain ⟨a0, c0, fs0, w0, e1, s0, t0, e4⟩ := m1 (0, 31, 1) (List.mem_of_getElem? (i := 0) rfl)
  obtain rfl : x0 = a0 := Sum.inl.inj (Option.some.inj (Sum.inr.inj (Sum.inr.inj (Option.some.inj (show some (rR x0) = some _ from e1)))))
  obtain rfl : rR x1 = w0 := Option.some.inj (show some (rR x1) = some w0 from e4)
  clear e1 e4
  obtain ⟨a, mc0, ty0, gc0, ic0, e1, sc0, jc0, e4, e5⟩ := m2 (1, ([], 1), 3) (List.mem_of_getElem? (i := 0) rfl)
  obtain rfl : x1 = a := Sum.inl.inj (Option.some.inj (Sum.inr.inj (Sum.inr.inj (Option.some.inj (show some (rR x1) = some _ from e1)))))
  obtain ⟨gc0, rfl⟩ : ∃ g, gc0 = .inl g := by
    rcases gc0 with g | g
    · exact ⟨g, rfl⟩
    · exact absurd (show some (rI x3) = some (.inr (.inl (g ic0))) from e5) (fun h => by cases h)
  have sc0 : σ x1 = .inl (ty0, mc0, .inl gc0) := sc0
  have ec0 : x3 = gc0 ic0 := Sum.inl.inj (Option.some.inj (show some (rI x3) = some _ from e5))
  have kc0 : (ic0 : Int) = 0 + 1 := by
    obtain ⟨z, e6, e7⟩ := e4
    obtain rfl : 0 = z := Option.some.inj (show some 0 = some z from e6)
    exact e7
  clear e1 e4 e5
  have f0 : rB K n p 401 [rR x0] σ := by
    obtain ⟨w, e6, e7⟩ := m4 (6417, [0]) (List.mem_of_getElem? (i := 0) rfl)
    obtain rfl : [rR x0] = w := Option.some.inj (show some [rR x0] = some w from e6)
    exact (rF_b (r := 6417) (by decide) rfl).mp e7
  have f0 := ro_401.mp f0
  clear m1 m2 m3 m4
  have q0 : rB K n p 418 [rI x3] σ := ro_418.mpr (by
    obtain ⟨hp, hz, -, g2, r2, k2⟩ := f0
    have e1 := rRo_c (i := ic0) r2 s0 t0 sc0 ec0
    rw [show ic0 = 1 by omega] at e1
    exact (e1.symm.trans k2.2.1))
  exact ⟨p, fun _ => rfl, ⟨(fun q h => by cases h), fun q h => (by cases h), (fun f h => by cases h), (aAllc ⟨_, rfl, (rF_b (r := 6689) (by decide) rfl).mpr q0⟩ (fun f h => by cases h))⟩, [], List.mem_cons_self, fun f h => (by cases h)⟩
theorem rw_rwKR2 {K : Nat → Nat} {n : Nat} {JX : (Nat → jcell) → Prop} : aGho (rF K n) fa_T K n JX ag_rwKR2 := by
  refine aGho_of ⟨rfl, rfl⟩ ?_
  intro p σ ρ hH hX hA hM0
  have hG := aAG_of hA.1 (fun i e v he hv => (hA.2 i e v he hv).1)
  clear hA
  obtain ⟨v0, v1, v2, v3, rfl, g0, g1, g2, g3⟩ := rA_4 hG
  clear hG
  obtain ⟨x0, rfl, b0, d0⟩ := rG_ref (by decide) g0
  obtain ⟨x1, rfl, b1, d1⟩ := rG_ref (by decide) g1
  obtain ⟨x2, rfl, b2, d2⟩ := aG_int g2
  dsimp only at b2 d2
  obtain ⟨x3, rfl, b3, d3⟩ := aG_int g3
  dsimp only at b3 d3
  obtain ⟨m1, m2, m3, m4⟩ := hM0
  obtain ⟨T, hT⟩ := rTe_ex hH b0 d0
  obtain ⟨a0, c0, fs0, w0, e1, s0, t0, e4⟩ := m1 (0, 31, 1) (List.mem_of_getElem? (i := 0) rfl)
  obtain rfl : x0 = a0 := Sum.inl.inj (Option.some.inj (Sum.inr.inj (Sum.inr.inj (Option.some.inj (show some (rR x0) = some _ from e1)))))
  obtain rfl : rR x1 = w0 := Option.some.inj (show some (rR x1) = some w0 from e4)
  clear e1 e4
  obtain ⟨a1, c1, fs1, w1, e1, s1, t1, e4⟩ := m1 (0, 27, 3) (List.mem_of_getElem? (i := 1) rfl)
  obtain rfl : x0 = a1 := Sum.inl.inj (Option.some.inj (Sum.inr.inj (Sum.inr.inj (Option.some.inj (show some (rR x0) = some _ from e1)))))
  obtain rfl : rI x3 = w1 := Option.some.inj (show some (rI x3) = some w1 from e4)
  clear e1 e4
  have f0 : rB K n p 400 [rR x0] σ := by
    obtain ⟨w, e6, e7⟩ := m4 (6401, [0]) (List.mem_of_getElem? (i := 0) rfl)
    obtain rfl : [rR x0] = w := Option.some.inj (show some [rR x0] = some w from e6)
    exact (rF_b (r := 6401) (by decide) rfl).mp e7
  obtain ⟨hp, hR⟩ := ro_400.mp f0
  obtain rfl := rMg_u hT hR.1
  have uP : p.1.2.2.2 = x3.toInt := rTX_f hR.2.2.2 s1 t1
  clear m1 m2 m3 m4
  have q0 : rB K n p 422 [rR x0] (jup σ x1 (jsto (σ x1) x2.toNatClampNeg x3)) := ro_422.mpr (by
    refine ⟨hp, rZ_of hT, ?_⟩
    obtain ⟨g, h⟩ := rRo_of (k := 62) (f := 31) hH b0 d0 s0 t0 b1 d1 rfl
    refine ⟨_, rRo_up h s0 t0, ?_⟩
    have hi : x2.toNatClampNeg = x2.toInt.toNat := rfl
    unfold upd
    rw [if_pos (by rw [hi]; omega)]
    exact uP.symm)
  exact ⟨p, fun _ => rfl, ⟨(fun q h => by cases h), fun q h => (by cases h), (fun f h => by cases h), (aAllc ⟨_, rfl, rF_p (r := 6753) (by decide) (by decide) q0⟩ (fun f h => by cases h))⟩, [], List.mem_cons_self, fun f h => (by cases h)⟩
theorem rw_rwBR2 {K : Nat → Nat} {n : Nat} {JX : (Nat → jcell) → Prop} : aGho (rF K n) fa_T K n JX ag_rwBR2 := by
  refine aGho_of ⟨rfl, rfl⟩ ?_
  intro p σ ρ hH hX hA hM0
  have hG := aAG_of hA.1 (fun i e v he hv => (hA.2 i e v he hv).1)
  clear hA
  obtain ⟨v0, v1, v2, v3, rfl, g0, g1, g2, g3⟩ := rA_4 hG
  clear hG
  obtain ⟨x0, rfl, b0, d0⟩ := rG_ref (by decide) g0
  obtain ⟨x1, rfl, b1, d1⟩ := rG_ref (by decide) g1
  obtain ⟨x2, rfl, b2, d2⟩ := aG_int g2
  dsimp only at b2 d2
  obtain ⟨x3, rfl, b3, d3⟩ := aG_int g3
  dsimp only at b3 d3
  obtain ⟨m1, m2, m3, m4⟩ := hM0
  obtain ⟨T, hT⟩ := rTe_ex hH b0 d0
  obtain ⟨a0, c0, fs0, w0, e1, s0, t0, e4⟩ := m1 (0, 31, 1) (List.mem_of_getElem? (i := 0) rfl)
  obtain rfl : x0 = a0 := Sum.inl.inj (Option.some.inj (Sum.inr.inj (Sum.inr.inj (Option.some.inj (show some (rR x0) = some _ from e1)))))
  obtain rfl : rR x1 = w0 := Option.some.inj (show some (rR x1) = some w0 from e4)
  clear e1 e4
  obtain ⟨a, mc0, ty0, gc0, ic0, e1, sc0, jc0, e4, e5⟩ := m2 (1, ([], 2), 3) (List.mem_of_getElem? (i := 0) rfl)
  obtain rfl : x1 = a := Sum.inl.inj (Option.some.inj (Sum.inr.inj (Sum.inr.inj (Option.some.inj (show some (rR x1) = some _ from e1)))))
  obtain ⟨gc0, rfl⟩ : ∃ g, gc0 = .inl g := by
    rcases gc0 with g | g
    · exact ⟨g, rfl⟩
    · exact absurd (show some (rI x3) = some (.inr (.inl (g ic0))) from e5) (fun h => by cases h)
  have sc0 : σ x1 = .inl (ty0, mc0, .inl gc0) := sc0
  have ec0 : x3 = gc0 ic0 := Sum.inl.inj (Option.some.inj (show some (rI x3) = some _ from e5))
  have kc0 : (ic0 : Int) = 0 + 2 := by
    obtain ⟨z, e6, e7⟩ := e4
    obtain rfl : 0 = z := Option.some.inj (show some 0 = some z from e6)
    exact e7
  clear e1 e4 e5
  have f0 : rB K n p 401 [rR x0] σ := by
    obtain ⟨w, e6, e7⟩ := m4 (6417, [0]) (List.mem_of_getElem? (i := 0) rfl)
    obtain rfl : [rR x0] = w := Option.some.inj (show some [rR x0] = some w from e6)
    exact (rF_b (r := 6417) (by decide) rfl).mp e7
  have f0 := ro_401.mp f0
  clear m1 m2 m3 m4
  have q0 : rB K n p 419 [rI x3] σ := ro_419.mpr (by
    obtain ⟨hp, hz, -, g2, r2, k2⟩ := f0
    have e1 := rRo_c (i := ic0) r2 s0 t0 sc0 ec0
    rw [show ic0 = 2 by omega] at e1
    exact (e1.symm.trans k2.2.2))
  exact ⟨p, fun _ => rfl, ⟨(fun q h => by cases h), fun q h => (by cases h), (fun f h => by cases h), (aAllc ⟨_, rfl, (rF_b (r := 6705) (by decide) rfl).mpr q0⟩ (fun f h => by cases h))⟩, [], List.mem_cons_self, fun f h => (by cases h)⟩
theorem rw_rwKPe {K : Nat → Nat} {n : Nat} {JX : (Nat → jcell) → Prop} : aGho (rF K n) fa_T K n JX ag_rwKPe := by
  refine aGho_of ⟨rfl, rfl⟩ ?_
  intro p σ ρ hH hX hA hM0
  have hG := aAG_of hA.1 (fun i e v he hv => (hA.2 i e v he hv).1)
  clear hA
  obtain ⟨v0, v1, rfl, g0, g1⟩ := rA_2 hG
  clear hG
  obtain ⟨x0, rfl, b0, d0⟩ := rG_ref (by decide) g0
  obtain ⟨x1, rfl, b1, d1⟩ := aG_int g1
  dsimp only at b1 d1
  obtain ⟨m1, m2, m3, m4⟩ := hM0
  obtain ⟨T, hT⟩ := rTe_ex hH b0 d0
  have f0 : rB K n p 402 [rR x0, rI x1] σ := by
    obtain ⟨w, e6, e7⟩ := m4 (6434, [0, 1]) (List.mem_of_getElem? (i := 0) rfl)
    obtain rfl : [rR x0, rI x1] = w := Option.some.inj (show some [rR x0, rI x1] = some w from e6)
    exact (rF_b (r := 6434) (by decide) rfl).mp e7
  have f0 := ro_402.mp f0
  have f1 : rB K n p 420 [rR x0] σ := by
    obtain ⟨w, e6, e7⟩ := m4 (6721, [0]) (List.mem_of_getElem? (i := 1) rfl)
    obtain rfl : [rR x0] = w := Option.some.inj (show some [rR x0] = some w from e6)
    exact (rF_b (r := 6721) (by decide) rfl).mp e7
  have f1 := ro_420.mp f1
  have f2 : rB K n p 421 [rR x0] σ := by
    obtain ⟨w, e6, e7⟩ := m4 (6737, [0]) (List.mem_of_getElem? (i := 2) rfl)
    obtain rfl : [rR x0] = w := Option.some.inj (show some [rR x0] = some w from e6)
    exact (rF_b (r := 6737) (by decide) rfl).mp e7
  have f2 := ro_421.mp f2
  have f3 : rB K n p 422 [rR x0] σ := by
    obtain ⟨w, e6, e7⟩ := m4 (6753, [0]) (List.mem_of_getElem? (i := 3) rfl)
    obtain rfl : [rR x0] = w := Option.some.inj (show some [rR x0] = some w from e6)
    exact (rF_b (r := 6753) (by decide) rfl).mp e7
  have f3 := ro_422.mp f3
  clear m1 m2 m3 m4
  have q0 : rB K n p 401 [rR x0] σ := ro_401.mpr (by
    obtain ⟨g, r1, k1⟩ := f0
    obtain ⟨hp, hz, g2, r2, e2⟩ := f1
    obtain ⟨-, -, g3, r3, e3⟩ := f2
    obtain ⟨-, -, g4, r4, e4⟩ := f3
    obtain rfl := rRo_u r2 r3
    obtain rfl := rRo_u r2 r4
    exact ⟨hp, hz, ⟨g, r1, fun j j0 j1 => k1 j j0 (by omega) j1⟩, g2, r2, e2, e3, e4⟩)
  exact ⟨p, fun _ => rfl, ⟨(fun q h => by cases h), fun q h => (by cases h), (fun f h => by cases h), (aAllc ⟨_, rfl, (rF_b (r := 6417) (by decide) rfl).mpr q0⟩ (fun f h => by cases h))⟩, [], List.mem_cons_self, fun f h => (by cases h)⟩
theorem rw_rwBB0 {K : Nat → Nat} {n : Nat} {JX : (Nat → jcell) → Prop} : aGho (rF K n) fa_T K n JX ag_rwBB0 := by
  refine aGho_of ⟨rfl, rfl⟩ ?_
  intro p σ ρ hH hX hA hM0
  have hG := aAG_of hA.1 (fun i e v he hv => (hA.2 i e v he hv).1)
  clear hA
  obtain ⟨v0, v1, rfl, g0, g1⟩ := rA_2 hG
  clear hG
  obtain ⟨x0, rfl, b0, d0⟩ := rG_ref (by decide) g0
  obtain ⟨x1, rfl, b1, d1⟩ := aG_int g1
  dsimp only at b1 d1
  obtain ⟨m1, m2, m3, m4⟩ := hM0
  obtain ⟨T, hT⟩ := rTe_ex hH b0 d0
  clear m1 m2 m3 m4
  have q0 : rB K n p 404 [rR x0, rI x1] σ := ro_404.mpr (by
    obtain ⟨g, h⟩ := rRo_ex (ko := 62) (f := 24) (kr := 82) (len := 64) hH rfl rfl rfl (by decide) b0 d0
    exact ⟨g, h, fun j h1 h2 => by omega⟩)
  exact ⟨p, fun _ => rfl, ⟨(fun q h => by cases h), fun q h => (by cases h), (fun f h => by cases h), (aAllc ⟨_, rfl, (rF_b (r := 6466) (by decide) rfl).mpr q0⟩ (fun f h => by cases h))⟩, [], List.mem_cons_self, fun f h => (by cases h)⟩
theorem rw_rwBBs {K : Nat → Nat} {n : Nat} {JX : (Nat → jcell) → Prop} : aGho (rF K n) fa_T K n JX ag_rwBBs := by
  refine aGho_of ⟨rfl, rfl⟩ ?_
  intro p σ ρ hH hX hA hM0
  have hG := aAG_of hA.1 (fun i e v he hv => (hA.2 i e v he hv).1)
  clear hA
  obtain ⟨v0, v1, v2, v3, v4, rfl, g0, g1, g2, g3, g4⟩ := rA_5 hG
  clear hG
  obtain ⟨x0, rfl, b0, d0⟩ := rG_ref (by decide) g0
  obtain ⟨x1, rfl, b1, d1⟩ := rG_ref (by decide) g1
  obtain ⟨x2, rfl, b2, d2⟩ := aG_int g2
  dsimp only at b2 d2
  obtain ⟨x3, rfl, b3, d3⟩ := aG_int g3
  dsimp only at b3 d3
  obtain ⟨x4, rfl, b4, d4⟩ := rG_ref (by decide) g4
  obtain ⟨m1, m2, m3, m4⟩ := hM0
  obtain ⟨T, hT⟩ := rTe_ex hH b0 d0
  obtain ⟨a0, c0, fs0, w0, e1, s0, t0, e4⟩ := m1 (0, 30, 4) (List.mem_of_getElem? (i := 0) rfl)
  obtain rfl : x0 = a0 := Sum.inl.inj (Option.some.inj (Sum.inr.inj (Sum.inr.inj (Option.some.inj (show some (rR x0) = some _ from e1)))))
  obtain rfl : rR x4 = w0 := Option.some.inj (show some (rR x4) = some w0 from e4)
  clear e1 e4
  obtain ⟨a1, c1, fs1, w1, e1, s1, t1, e4⟩ := m1 (0, 24, 1) (List.mem_of_getElem? (i := 1) rfl)
  obtain rfl : x0 = a1 := Sum.inl.inj (Option.some.inj (Sum.inr.inj (Sum.inr.inj (Option.some.inj (show some (rR x0) = some _ from e1)))))
  obtain rfl : rR x1 = w1 := Option.some.inj (show some (rR x1) = some w1 from e4)
  clear e1 e4
  obtain ⟨a, mc0, ty0, gc0, ic0, e1, sc0, jc0, e4, e5⟩ := m2 (4, ([(2, 1)], 0), 3) (List.mem_of_getElem? (i := 0) rfl)
  obtain rfl : x4 = a := Sum.inl.inj (Option.some.inj (Sum.inr.inj (Sum.inr.inj (Option.some.inj (show some (rR x4) = some _ from e1)))))
  obtain ⟨gc0, rfl⟩ : ∃ g, gc0 = .inl g := by
    rcases gc0 with g | g
    · exact ⟨g, rfl⟩
    · exact absurd (show some (rI x3) = some (.inr (.inl (g ic0))) from e5) (fun h => by cases h)
  have sc0 : σ x4 = .inl (ty0, mc0, .inl gc0) := sc0
  have ec0 : x3 = gc0 ic0 := Sum.inl.inj (Option.some.inj (show some (rI x3) = some _ from e5))
  have kc0 : (ic0 : Int) = (1 * x2.toInt + 0) + 0 := by
    obtain ⟨z, e6, e7⟩ := e4
    obtain rfl : (1 * x2.toInt + 0) = z := Option.some.inj (show some (1 * x2.toInt + 0) = some z from e6)
    exact e7
  clear e1 e4 e5
  have f0 : rB K n p 401 [rR x0] σ := by
    obtain ⟨w, e6, e7⟩ := m4 (6417, [0]) (List.mem_of_getElem? (i := 0) rfl)
    obtain rfl : [rR x0] = w := Option.some.inj (show some [rR x0] = some w from e6)
    exact (rF_b (r := 6417) (by decide) rfl).mp e7
  have f0 := ro_401.mp f0
  have f1 : rB K n p 404 [rR x0, rI x2] σ := by
    obtain ⟨w, e6, e7⟩ := m4 (6466, [0, 2]) (List.mem_of_getElem? (i := 1) rfl)
    obtain rfl : [rR x0, rI x2] = w := Option.some.inj (show some [rR x0, rI x2] = some w from e6)
    exact (rF_b (r := 6466) (by decide) rfl).mp e7
  have f1 := ro_404.mp f1
  clear m1 m2 m3 m4
  have q0 : rB K n p 405 [rR x0, rI x2] (jup σ x1 (jsto (σ x1) x2.toNatClampNeg x3)) := ro_405.mpr (by
    obtain ⟨g, h, k⟩ := f1
    refine ⟨_, rRo_up h s1 t1, fun j h1 h2 h3 => ?_⟩
    have hi : x2.toNatClampNeg = x2.toInt.toNat := rfl
    unfold upd
    by_cases cj : j = x2.toInt
    · rw [if_pos (by rw [hi]; omega), cj]
      obtain ⟨-, -, ⟨g2, r2, k2⟩, -⟩ := f0
      have e1 := rRo_c (i := ic0) r2 s0 t0 sc0 ec0
      rw [show ic0 = x2.toInt.toNat by omega] at e1
      rw [← e1]
      exact k2 _ b2 d2
    · rw [if_neg (by rw [hi]; omega)]
      exact k j h1 (by omega) h3)
  exact ⟨p, fun _ => rfl, ⟨(fun q h => by cases h), fun q h => (by cases h), (fun f h => by cases h), (aAllc ⟨_, rfl, rF_p (r := 6482) (by decide) (by decide) q0⟩ (fun f h => by cases h))⟩, [], List.mem_cons_self, fun f h => (by cases h)⟩
theorem rw_rwBBn {K : Nat → Nat} {n : Nat} {JX : (Nat → jcell) → Prop} : aGho (rF K n) fa_T K n JX ag_rwBBn := by
  refine aGho_of ⟨rfl, rfl⟩ ?_
  intro p σ ρ hH hX hA hM0
  have hG := aAG_of hA.1 (fun i e v he hv => (hA.2 i e v he hv).1)
  clear hA
  obtain ⟨v0, v1, v2, rfl, g0, g1, g2⟩ := rA_3 hG
  clear hG
  obtain ⟨x0, rfl, b0, d0⟩ := rG_ref (by decide) g0
  obtain ⟨x1, rfl, b1, d1⟩ := aG_int g1
  dsimp only at b1 d1
  obtain ⟨x2, rfl, b2, d2⟩ := aG_int g2
  dsimp only at b2 d2
  obtain ⟨m1, m2, m3, m4⟩ := hM0
  obtain ⟨T, hT⟩ := rTe_ex hH b0 d0
  have l0 : 0 ≤ (1 * x2.toInt + (-1 * x1.toInt + 0)) + -1 := by
    obtain ⟨z, e6, e7⟩ := m3 ([(2, 1), (1, -1)], -1) (List.mem_of_getElem? (i := 0) rfl)
    obtain rfl : (1 * x2.toInt + (-1 * x1.toInt + 0)) = z := Option.some.inj (show some (1 * x2.toInt + (-1 * x1.toInt + 0)) = some z from e6)
    exact e7
  have l1 : 0 ≤ (-1 * x2.toInt + (1 * x1.toInt + 0)) + 1 := by
    obtain ⟨z, e6, e7⟩ := m3 ([(2, -1), (1, 1)], 1) (List.mem_of_getElem? (i := 1) rfl)
    obtain rfl : (-1 * x2.toInt + (1 * x1.toInt + 0)) = z := Option.some.inj (show some (-1 * x2.toInt + (1 * x1.toInt + 0)) = some z from e6)
    exact e7
  have f0 : rB K n p 405 [rR x0, rI x1] σ := by
    obtain ⟨w, e6, e7⟩ := m4 (6482, [0, 1]) (List.mem_of_getElem? (i := 0) rfl)
    obtain rfl : [rR x0, rI x1] = w := Option.some.inj (show some [rR x0, rI x1] = some w from e6)
    exact (rF_b (r := 6482) (by decide) rfl).mp e7
  have f0 := ro_405.mp f0
  clear m1 m2 m3 m4
  have q0 : rB K n p 404 [rR x0, rI x2] σ := ro_404.mpr (by
    rw [show x2.toInt = x1.toInt + 1 by omega]
    exact f0)
  exact ⟨p, fun _ => rfl, ⟨(fun q h => by cases h), fun q h => (by cases h), (fun f h => by cases h), (aAllc ⟨_, rfl, (rF_b (r := 6466) (by decide) rfl).mpr q0⟩ (fun f h => by cases h))⟩, [], List.mem_cons_self, fun f h => (by cases h)⟩
theorem rw_rwBBe {K : Nat → Nat} {n : Nat} {JX : (Nat → jcell) → Prop} : aGho (rF K n) fa_T K n JX ag_rwBBe := by
  refine aGho_of ⟨rfl, rfl⟩ ?_
  intro p σ ρ hH hX hA hM0
  have hG := aAG_of hA.1 (fun i e v he hv => (hA.2 i e v he hv).1)
  clear hA
  obtain ⟨v0, v1, v2, v3, v4, rfl, g0, g1, g2, g3, g4⟩ := rA_5 hG
  clear hG
  obtain ⟨x0, rfl, b0, d0⟩ := rG_ref (by decide) g0
  obtain ⟨x1, rfl, b1, d1⟩ := aG_int g1
  dsimp only at b1 d1
  obtain ⟨x2, rfl, b2, d2⟩ := aG_int g2
  dsimp only at b2 d2
  obtain ⟨x3, rfl, b3, d3⟩ := aG_int g3
  dsimp only at b3 d3
  obtain ⟨x4, rfl, b4, d4⟩ := aG_int g4
  dsimp only at b4 d4
  obtain ⟨m1, m2, m3, m4⟩ := hM0
  obtain ⟨T, hT⟩ := rTe_ex hH b0 d0
  obtain ⟨a0, c0, fs0, w0, e1, s0, t0, e4⟩ := m1 (0, 25, 2) (List.mem_of_getElem? (i := 0) rfl)
  obtain rfl : x0 = a0 := Sum.inl.inj (Option.some.inj (Sum.inr.inj (Sum.inr.inj (Option.some.inj (show some (rR x0) = some _ from e1)))))
  obtain rfl : rI x2 = w0 := Option.some.inj (show some (rI x2) = some w0 from e4)
  clear e1 e4
  obtain ⟨a1, c1, fs1, w1, e1, s1, t1, e4⟩ := m1 (0, 26, 3) (List.mem_of_getElem? (i := 1) rfl)
  obtain rfl : x0 = a1 := Sum.inl.inj (Option.some.inj (Sum.inr.inj (Sum.inr.inj (Option.some.inj (show some (rR x0) = some _ from e1)))))
  obtain rfl : rI x3 = w1 := Option.some.inj (show some (rI x3) = some w1 from e4)
  clear e1 e4
  obtain ⟨a2, c2, fs2, w2, e1, s2, t2, e4⟩ := m1 (0, 27, 4) (List.mem_of_getElem? (i := 2) rfl)
  obtain rfl : x0 = a2 := Sum.inl.inj (Option.some.inj (Sum.inr.inj (Sum.inr.inj (Option.some.inj (show some (rR x0) = some _ from e1)))))
  obtain rfl : rI x4 = w2 := Option.some.inj (show some (rI x4) = some w2 from e4)
  clear e1 e4
  have f0 : rB K n p 404 [rR x0, rI x1] σ := by
    obtain ⟨w, e6, e7⟩ := m4 (6466, [0, 1]) (List.mem_of_getElem? (i := 0) rfl)
    obtain rfl : [rR x0, rI x1] = w := Option.some.inj (show some [rR x0, rI x1] = some w from e6)
    exact (rF_b (r := 6466) (by decide) rfl).mp e7
  have f0 := ro_404.mp f0
  have f1 : rB K n p 417 [rI x2] σ := by
    obtain ⟨w, e6, e7⟩ := m4 (6673, [2]) (List.mem_of_getElem? (i := 1) rfl)
    obtain rfl : [rI x2] = w := Option.some.inj (show some [rI x2] = some w from e6)
    exact (rF_b (r := 6673) (by decide) rfl).mp e7
  have f1 := ro_417.mp f1
  have f2 : rB K n p 418 [rI x3] σ := by
    obtain ⟨w, e6, e7⟩ := m4 (6689, [3]) (List.mem_of_getElem? (i := 2) rfl)
    obtain rfl : [rI x3] = w := Option.some.inj (show some [rI x3] = some w from e6)
    exact (rF_b (r := 6689) (by decide) rfl).mp e7
  have f2 := ro_418.mp f2
  have f3 : rB K n p 419 [rI x4] σ := by
    obtain ⟨w, e6, e7⟩ := m4 (6705, [4]) (List.mem_of_getElem? (i := 3) rfl)
    obtain rfl : [rI x4] = w := Option.some.inj (show some [rI x4] = some w from e6)
    exact (rF_b (r := 6705) (by decide) rfl).mp e7
  have f3 := ro_419.mp f3
  clear m1 m2 m3 m4
  have q0 : rB K n p 400 [rR x0] σ := ro_400.mpr (by
    obtain ⟨g, r1, k1⟩ := f0
    obtain ⟨hp, hz, e2⟩ := f1
    exact ⟨hp, rZ_e r1 hz (fun j j0 j1 => k1 j j0 (by omega) j1), ⟨x2, ⟨b0, d0, _, _, s0, t0⟩, e2⟩, ⟨x3, ⟨b0, d0, _, _, s1, t1⟩, f2⟩, ⟨x4, ⟨b0, d0, _, _, s2, t2⟩, f3⟩⟩)
  exact ⟨p, fun _ => rfl, ⟨(fun q h => by cases h), fun q h => (by cases h), (fun f h => by cases h), (aAllc ⟨_, rfl, (rF_b (r := 6401) (by decide) rfl).mpr q0⟩ (fun f h => by cases h))⟩, [], List.mem_cons_self, fun f h => (by cases h)⟩
end
section
/-! the reference: rules of u2 -/
theorem rw_rwSO0 {K : Nat → Nat} {n : Nat} {JX : (Nat → jcell) → Prop} : aGho (rF K n) fa_T K n JX ag_rwSO0 := by
  refine aGho_of ⟨rfl, rfl⟩ ?_
  intro p σ ρ hH hX hA hM0
  have hG := aAG_of hA.1 (fun i e v he hv => (hA.2 i e v he hv).1)
  clear hA
  obtain ⟨v0, v1, rfl, g0, g1⟩ := rA_2 hG
  clear hG
  obtain ⟨x0, rfl, b0, d0⟩ := aG_int g0
  dsimp only at b0 d0
  obtain ⟨x1, rfl, b1, d1⟩ := aG_int g1
  dsimp only at b1 d1
  obtain ⟨m1, m2, m3, m4⟩ := hM0
  clear m1 m2 m3 m4
  have q0 : rB K n p 216 [rI x0, rI x1] σ := ro_216.mpr (by
    omega)
  exact ⟨p, fun _ => rfl, ⟨(fun q h => by cases h), fun q h => (by cases h), (fun f h => by cases h), (aAllc ⟨_, rfl, (rF_b (r := 3458) (by decide) rfl).mpr q0⟩ (fun f h => by cases h))⟩, [], List.mem_cons_self, fun f h => (by cases h)⟩
theorem rw_rwSO1 {K : Nat → Nat} {n : Nat} {JX : (Nat → jcell) → Prop} : aGho (rF K n) fa_T K n JX ag_rwSO1 := by
  refine aGho_of ⟨rfl, rfl⟩ ?_
  intro p σ ρ hH hX hA hM0
  have hG := aAG_of hA.1 (fun i e v he hv => (hA.2 i e v he hv).1)
  clear hA
  obtain ⟨v0, v1, v2, rfl, g0, g1, g2⟩ := rA_3 hG
  clear hG
  obtain ⟨x0, rfl, b0, d0⟩ := aG_int g0
  dsimp only at b0 d0
  obtain ⟨x1, rfl, b1, d1⟩ := aG_int g1
  dsimp only at b1 d1
  obtain ⟨x2, rfl, b2, d2⟩ := aG_int g2
  dsimp only at b2 d2
  obtain ⟨m1, m2, m3, m4⟩ := hM0
  have l0 : 0 ≤ (1 * x1.toInt + 0) + -3 := by
    obtain ⟨z, e6, e7⟩ := m3 ([(1, 1)], -3) (List.mem_of_getElem? (i := 0) rfl)
    obtain rfl : (1 * x1.toInt + 0) = z := Option.some.inj (show some (1 * x1.toInt + 0) = some z from e6)
    exact e7
  have l1 : 0 ≤ (-1 * x1.toInt + 0) + 3 := by
    obtain ⟨z, e6, e7⟩ := m3 ([(1, -1)], 3) (List.mem_of_getElem? (i := 1) rfl)
    obtain rfl : (-1 * x1.toInt + 0) = z := Option.some.inj (show some (-1 * x1.toInt + 0) = some z from e6)
    exact e7
  have f0 : rB K n p 114 [rI x0, rI x1, rI x2] σ := by
    obtain ⟨w, e6, e7⟩ := m4 (1827, [0, 1, 2]) (List.mem_of_getElem? (i := 0) rfl)
    obtain rfl : [rI x0, rI x1, rI x2] = w := Option.some.inj (show some [rI x0, rI x1, rI x2] = some w from e6)
    exact (rF_b (r := 1827) (by decide) rfl).mp e7
  have f0 : x2 = x0 >>> (x1 &&& 31) := Sum.inl.inj (ro_114.mp f0)
  clear m1 m2 m3 m4
  have q0 : rB K n p 216 [rI x0, rI x2] σ := ro_216.mpr (by
    have e := rShr3 f0 (by omega) (by omega) (by omega)
    omega)
  exact ⟨p, fun _ => rfl, ⟨(fun q h => by cases h), fun q h => (by cases h), (fun f h => by cases h), (aAllc ⟨_, rfl, (rF_b (r := 3458) (by decide) rfl).mpr q0⟩ (fun f h => by cases h))⟩, [], List.mem_cons_self, fun f h => (by cases h)⟩
theorem rw_rwRT {K : Nat → Nat} {n : Nat} {JX : (Nat → jcell) → Prop} : aGho (rF K n) fa_T K n JX ag_rwRT := by
  refine aGho_of ⟨rfl, rfl⟩ ?_
  intro p σ ρ hH hX hA hM0
  have hG := aAG_of hA.1 (fun i e v he hv => (hA.2 i e v he hv).1)
  clear hA
  obtain ⟨v0, v1, v2, v3, v4, v5, rfl, g0, g1, g2, g3, g4, g5⟩ := rA_6 hG
  clear hG
  obtain ⟨x0, rfl, b0, d0⟩ := aG_int g0
  dsimp only at b0 d0
  obtain ⟨x1, rfl, b1, d1⟩ := aG_int g1
  dsimp only at b1 d1
  obtain ⟨x2, rfl, b2, d2⟩ := aG_int g2
  dsimp only at b2 d2
  obtain ⟨x3, rfl, b3, d3⟩ := aG_int g3
  dsimp only at b3 d3
  obtain ⟨x4, rfl, b4, d4⟩ := aG_int g4
  dsimp only at b4 d4
  obtain ⟨x5, rfl, b5, d5⟩ := aG_int g5
  dsimp only at b5 d5
  obtain ⟨m1, m2, m3, m4⟩ := hM0
  have l0 : 0 ≤ (1 * x5.toInt + 0) + 1 := by
    obtain ⟨z, e6, e7⟩ := m3 ([(5, 1)], 1) (List.mem_of_getElem? (i := 0) rfl)
    obtain rfl : (1 * x5.toInt + 0) = z := Option.some.inj (show some (1 * x5.toInt + 0) = some z from e6)
    exact e7
  have l1 : 0 ≤ (-1 * x5.toInt + 0) + -1 := by
    obtain ⟨z, e6, e7⟩ := m3 ([(5, -1)], -1) (List.mem_of_getElem? (i := 1) rfl)
    obtain rfl : (-1 * x5.toInt + 0) = z := Option.some.inj (show some (-1 * x5.toInt + 0) = some z from e6)
    exact e7
  have f0 : rB K n p 162 [rI x0, rI x2] σ := by
    obtain ⟨w, e6, e7⟩ := m4 (2594, [0, 2]) (List.mem_of_getElem? (i := 0) rfl)
    obtain rfl : [rI x0, rI x2] = w := Option.some.inj (show some [rI x0, rI x2] = some w from e6)
    exact (rF_b (r := 2594) (by decide) rfl).mp e7
  have f0 := ro_162.mp f0
  have f1 : rB K n p 117 [rI x2, rI x5, rI x3] σ := by
    obtain ⟨w, e6, e7⟩ := m4 (1875, [2, 5, 3]) (List.mem_of_getElem? (i := 1) rfl)
    obtain rfl : [rI x2, rI x5, rI x3] = w := Option.some.inj (show some [rI x2, rI x5, rI x3] = some w from e6)
    exact (rF_b (r := 1875) (by decide) rfl).mp e7
  have f1 : x3 = x2 ^^^ x5 := Sum.inl.inj (ro_117.mp f1)
  have f2 : rB K n p 111 [rI x1, rI x3, rI x4] σ := by
    obtain ⟨w, e6, e7⟩ := m4 (1779, [1, 3, 4]) (List.mem_of_getElem? (i := 2) rfl)
    obtain rfl : [rI x1, rI x3, rI x4] = w := Option.some.inj (show some [rI x1, rI x3, rI x4] = some w from e6)
    exact (rF_b (r := 1779) (by decide) rfl).mp e7
  have f2 : x4 = x1 &&& x3 := Sum.inl.inj (ro_111.mp f2)
  clear m1 m2 m3 m4
  have q0 : rB K n p 163 [rI x0, rI x1, rI x4] σ := ro_163.mpr (by
    have em : x5 = -1 := Int32.toInt_inj.mp (by rw [show (-1 : Int32).toInt = -1 from rfl]; omega)
    unfold rAn
    rw [← f0, Int32.ofInt_toInt, Int32.ofInt_toInt, f2, f1, em])
  exact ⟨p, fun _ => rfl, ⟨(fun q h => by cases h), fun q h => (by cases h), (fun f h => by cases h), (aAllc ⟨_, rfl, (rF_b (r := 2611) (by decide) rfl).mpr q0⟩ (fun f h => by cases h))⟩, [], List.mem_cons_self, fun f h => (by cases h)⟩
theorem rw_rvTR64 {K : Nat → Nat} {n : Nat} {JX : (Nat → jcell) → Prop} : aGho (rF K n) fa_T K n JX ag_rvTR64 := by
  refine aGho_of ⟨rfl, rfl⟩ ?_
  intro p σ ρ hH hX hA hM0
  have hG := aAG_of hA.1 (fun i e v he hv => (hA.2 i e v he hv).1)
  clear hA
  obtain ⟨v0, rfl, g0⟩ := rA_1 hG
  clear hG
  obtain ⟨x0, rfl, b0, d0⟩ := aG_int g0
  dsimp only at b0 d0
  obtain ⟨m1, m2, m3, m4⟩ := hM0
  clear m1 m2 m3 m4
  have hd : (0 ≤ (1 * x0.toInt + 0) + 0 ∧ 0 ≤ (-1 * x0.toInt + 0) + 0) ∨ (0 ≤ (1 * x0.toInt + 0) + -1) := by
    omega
  rcases hd with ⟨w0, w1⟩ | w0
  · exact ⟨p, fun _ => rfl, ⟨(fun q h => by cases h), fun q h => (by cases h), (fun f h => by cases h), (fun f h => by cases h)⟩, _, List.mem_of_getElem? (i := 0) rfl, (aAllc ⟨_, rfl, w0⟩ (aAllc ⟨_, rfl, w1⟩ (fun f h => by cases h)))⟩
  · exact ⟨p, fun _ => rfl, ⟨(fun q h => by cases h), fun q h => (by cases h), (fun f h => by cases h), (fun f h => by cases h)⟩, _, List.mem_of_getElem? (i := 1) rfl, (aAllc ⟨_, rfl, w0⟩ (fun f h => by cases h))⟩
theorem rw_rwFMA {K : Nat → Nat} {n : Nat} {JX : (Nat → jcell) → Prop} : aGho (rF K n) fa_T K n JX ag_rwFMA := by
  refine aGho_of ⟨rfl, rfl⟩ ?_
  intro p σ ρ hH hX hA hM0
  have hG := aAG_of hA.1 (fun i e v he hv => (hA.2 i e v he hv).1)
  clear hA
  obtain ⟨v0, v1, v2, v3, v4, v5, v6, rfl, g0, g1, g2, g3, g4, g5, g6⟩ := rA_7 hG
  clear hG
  obtain ⟨x0, rfl, b0, d0⟩ := rG_ref (by decide) g0
  obtain ⟨x1, rfl, b1, d1⟩ := aG_int g1
  dsimp only at b1 d1
  obtain ⟨x2, rfl, b2, d2⟩ := aG_int g2
  dsimp only at b2 d2
  obtain ⟨x3, rfl, b3, d3⟩ := aG_int g3
  dsimp only at b3 d3
  obtain ⟨x4, rfl, b4, d4⟩ := aG_int g4
  dsimp only at b4 d4
  obtain ⟨x5, rfl, b5, d5⟩ := aG_int g5
  dsimp only at b5 d5
  obtain ⟨x6, rfl, b6, d6⟩ := rG_ref (by decide) g6
  obtain ⟨m1, m2, m3, m4⟩ := hM0
  obtain ⟨T, hT⟩ := rTe_ex hH b0 d0
  obtain ⟨a0, c0, fs0, w0, e1, s0, t0, e4⟩ := m1 (0, 24, 6) (List.mem_of_getElem? (i := 0) rfl)
  obtain rfl : x0 = a0 := Sum.inl.inj (Option.some.inj (Sum.inr.inj (Sum.inr.inj (Option.some.inj (show some (rR x0) = some _ from e1)))))
  obtain rfl : rR x6 = w0 := Option.some.inj (show some (rR x6) = some w0 from e4)
  clear e1 e4
  obtain ⟨a, mc0, ty0, gc0, ic0, e1, sc0, jc0, e4, e5⟩ := m2 (6, ([(2, 1)], 0), 5) (List.mem_of_getElem? (i := 0) rfl)
  obtain rfl : x6 = a := Sum.inl.inj (Option.some.inj (Sum.inr.inj (Sum.inr.inj (Option.some.inj (show some (rR x6) = some _ from e1)))))
  obtain ⟨gc0, rfl⟩ : ∃ g, gc0 = .inl g := by
    rcases gc0 with g | g
    · exact ⟨g, rfl⟩
    · exact absurd (show some (rI x5) = some (.inr (.inl (g ic0))) from e5) (fun h => by cases h)
  have sc0 : σ x6 = .inl (ty0, mc0, .inl gc0) := sc0
  have ec0 : x5 = gc0 ic0 := Sum.inl.inj (Option.some.inj (show some (rI x5) = some _ from e5))
  have kc0 : (ic0 : Int) = (1 * x2.toInt + 0) + 0 := by
    obtain ⟨z, e6, e7⟩ := e4
    obtain rfl : (1 * x2.toInt + 0) = z := Option.some.inj (show some (1 * x2.toInt + 0) = some z from e6)
    exact e7
  clear e1 e4 e5
  have y0 : T x2.toInt = x5.toInt := rMg_c hT s0 t0 sc0 (by omega) (by omega) (by omega) ec0
  have f0 : rB K n p 400 [rR x0] σ := by
    obtain ⟨w, e6, e7⟩ := m4 (6401, [0]) (List.mem_of_getElem? (i := 0) rfl)
    obtain rfl : [rR x0] = w := Option.some.inj (show some [rR x0] = some w from e6)
    exact (rF_b (r := 6401) (by decide) rfl).mp e7
  obtain ⟨hp, hR⟩ := ro_400.mp f0
  obtain rfl := rMg_u hT hR.1
  have f1 : rB K n p 160 [rI x1, rI x2, rI x3, rI x4] σ := by
    obtain ⟨w, e6, e7⟩ := m4 (2564, [1, 2, 3, 4]) (List.mem_of_getElem? (i := 1) rfl)
    obtain rfl : [rI x1, rI x2, rI x3, rI x4] = w := Option.some.inj (show some [rI x1, rI x2, rI x3, rI x4] = some w from e6)
    exact (rF_b (r := 2564) (by decide) rfl).mp e7
  have f1 := ro_160.mp f1
  clear m1 m2 m3 m4
  have q0 : rB K n p 412 [rI x1, rI x5] σ := ro_412.mpr (by
    rw [← f1.1]
    exact y0.symm)
  exact ⟨p, fun _ => rfl, ⟨(fun q h => by cases h), fun q h => (by cases h), (fun f h => by cases h), (aAllc ⟨_, rfl, (rF_b (r := 6594) (by decide) rfl).mpr q0⟩ (fun f h => by cases h))⟩, [], List.mem_cons_self, fun f h => (by cases h)⟩
theorem rw_rwPF {K : Nat → Nat} {n : Nat} {JX : (Nat → jcell) → Prop} : aGho (rF K n) fa_T K n JX ag_rwPF := by
  refine aGho_of ⟨rfl, rfl⟩ ?_
  intro p σ ρ hH hX hA hM0
  have hG := aAG_of hA.1 (fun i e v he hv => (hA.2 i e v he hv).1)
  clear hA
  obtain ⟨v0, v1, v2, v3, rfl, g0, g1, g2, g3⟩ := rA_4 hG
  clear hG
  obtain ⟨x0, rfl, b0, d0⟩ := rG_ref (by decide) g0
  obtain ⟨x1, rfl, b1, d1⟩ := aG_int g1
  dsimp only at b1 d1
  obtain ⟨x2, rfl, b2, d2⟩ := aG_int g2
  dsimp only at b2 d2
  obtain ⟨x3, rfl, b3, d3⟩ := aG_int g3
  dsimp only at b3 d3
  obtain ⟨m1, m2, m3, m4⟩ := hM0
  obtain ⟨T, hT⟩ := rTe_ex hH b0 d0
  obtain ⟨a0, c0, fs0, w0, e1, s0, t0, e4⟩ := m1 (0, 25, 1) (List.mem_of_getElem? (i := 0) rfl)
  obtain rfl : x0 = a0 := Sum.inl.inj (Option.some.inj (Sum.inr.inj (Sum.inr.inj (Option.some.inj (show some (rR x0) = some _ from e1)))))
  obtain rfl : rI x1 = w0 := Option.some.inj (show some (rI x1) = some w0 from e4)
  clear e1 e4
  obtain ⟨a1, c1, fs1, w1, e1, s1, t1, e4⟩ := m1 (0, 26, 2) (List.mem_of_getElem? (i := 1) rfl)
  obtain rfl : x0 = a1 := Sum.inl.inj (Option.some.inj (Sum.inr.inj (Sum.inr.inj (Option.some.inj (show some (rR x0) = some _ from e1)))))
  obtain rfl : rI x2 = w1 := Option.some.inj (show some (rI x2) = some w1 from e4)
  clear e1 e4
  obtain ⟨a2, c2, fs2, w2, e1, s2, t2, e4⟩ := m1 (0, 27, 3) (List.mem_of_getElem? (i := 2) rfl)
  obtain rfl : x0 = a2 := Sum.inl.inj (Option.some.inj (Sum.inr.inj (Sum.inr.inj (Option.some.inj (show some (rR x0) = some _ from e1)))))
  obtain rfl : rI x3 = w2 := Option.some.inj (show some (rI x3) = some w2 from e4)
  clear e1 e4
  have f0 : rB K n p 400 [rR x0] σ := by
    obtain ⟨w, e6, e7⟩ := m4 (6401, [0]) (List.mem_of_getElem? (i := 0) rfl)
    obtain rfl : [rR x0] = w := Option.some.inj (show some [rR x0] = some w from e6)
    exact (rF_b (r := 6401) (by decide) rfl).mp e7
  obtain ⟨hp, hR⟩ := ro_400.mp f0
  obtain rfl := rMg_u hT hR.1
  have uS : p.1.2.1 = x1.toInt := rTX_f hR.2.1 s0 t0
  have uR : p.1.2.2.1 = x2.toInt := rTX_f hR.2.2.1 s1 t1
  have uP : p.1.2.2.2 = x3.toInt := rTX_f hR.2.2.2 s2 t2
  clear m1 m2 m3 m4
  have q0 : rB K n p 417 [rI x1] σ := ro_417.mpr (by
    exact ⟨hp, rZ_of hT, uS.symm⟩)
  have q1 : rB K n p 418 [rI x2] σ := ro_418.mpr (by
    exact uR.symm)
  have q2 : rB K n p 419 [rI x3] σ := ro_419.mpr (by
    exact uP.symm)
  exact ⟨p, fun _ => rfl, ⟨(fun q h => by cases h), fun q h => (by cases h), (fun f h => by cases h), (aAllc ⟨_, rfl, (rF_b (r := 6673) (by decide) rfl).mpr q0⟩ (aAllc ⟨_, rfl, (rF_b (r := 6689) (by decide) rfl).mpr q1⟩ (aAllc ⟨_, rfl, (rF_b (r := 6705) (by decide) rfl).mpr q2⟩ (fun f h => by cases h))))⟩, [], List.mem_cons_self, fun f h => (by cases h)⟩
theorem rw_rwWN0 {K : Nat → Nat} {n : Nat} {JX : (Nat → jcell) → Prop} : aGho (rF K n) fa_T K n JX ag_rwWN0 := by
  refine aGho_of ⟨rfl, rfl⟩ ?_
  intro p σ ρ hH hX hA hM0
  have hG := aAG_of hA.1 (fun i e v he hv => (hA.2 i e v he hv).1)
  clear hA
  obtain ⟨v0, v1, v2, v3, v4, v5, v6, v7, rfl, g0, g1, g2, g3, g4, g5, g6, g7⟩ := rA_8 hG
  clear hG
  obtain ⟨x0, rfl, b0, d0⟩ := rG_ref (by decide) g0
  obtain ⟨x1, rfl, b1, d1⟩ := aG_int g1
  dsimp only at b1 d1
  obtain ⟨x2, rfl, b2, d2⟩ := aG_int g2
  dsimp only at b2 d2
  obtain ⟨x3, rfl, b3, d3⟩ := aG_int g3
  dsimp only at b3 d3
  obtain ⟨x4, rfl, b4, d4⟩ := aG_int g4
  dsimp only at b4 d4
  obtain ⟨x5, rfl, b5, d5⟩ := aG_int g5
  dsimp only at b5 d5
  obtain ⟨x6, rfl, b6, d6⟩ := aG_int g6
  dsimp only at b6 d6
  obtain ⟨x7, rfl, b7, d7⟩ := aG_int g7
  dsimp only at b7 d7
  obtain ⟨m1, m2, m3, m4⟩ := hM0
  obtain ⟨T, hT⟩ := rTe_ex hH b0 d0
  have f0 : rB K n p 160 [rI x1, rI x2, rI x3, rI x4] σ := by
    obtain ⟨w, e6, e7⟩ := m4 (2564, [1, 2, 3, 4]) (List.mem_of_getElem? (i := 0) rfl)
    obtain rfl : [rI x1, rI x2, rI x3, rI x4] = w := Option.some.inj (show some [rI x1, rI x2, rI x3, rI x4] = some w from e6)
    exact (rF_b (r := 2564) (by decide) rfl).mp e7
  have f0 := ro_160.mp f0
  have f1 : rB K n p 412 [rI x1, rI x5] σ := by
    obtain ⟨w, e6, e7⟩ := m4 (6594, [1, 5]) (List.mem_of_getElem? (i := 1) rfl)
    obtain rfl : [rI x1, rI x5] = w := Option.some.inj (show some [rI x1, rI x5] = some w from e6)
    exact (rF_b (r := 6594) (by decide) rfl).mp e7
  have f1 := ro_412.mp f1
  have f2 : rB K n p 147 [rI x5, rI x6] σ := by
    obtain ⟨w, e6, e7⟩ := m4 (2354, [5, 6]) (List.mem_of_getElem? (i := 2) rfl)
    obtain rfl : [rI x5, rI x6] = w := Option.some.inj (show some [rI x5, rI x6] = some w from e6)
    exact (rF_b (r := 2354) (by decide) rfl).mp e7
  have f2 := ro_147.mp f2
  clear m1 m2 m3 m4
  have q0 : rB K n p 413 [rI x1, rI x7] σ := ro_413.mpr (by
    rw [← f1]
    omega)
  exact ⟨p, fun _ => rfl, ⟨(fun q h => by cases h), fun q h => (by cases h), (fun f h => by cases h), (aAllc ⟨_, rfl, (rF_b (r := 6610) (by decide) rfl).mpr q0⟩ (fun f h => by cases h))⟩, [], List.mem_cons_self, fun f h => (by cases h)⟩
theorem rw_rwWN1 {K : Nat → Nat} {n : Nat} {JX : (Nat → jcell) → Prop} : aGho (rF K n) fa_T K n JX ag_rwWN1 := by
  refine aGho_of ⟨rfl, rfl⟩ ?_
  intro p σ ρ hH hX hA hM0
  have hG := aAG_of hA.1 (fun i e v he hv => (hA.2 i e v he hv).1)
  clear hA
  obtain ⟨v0, v1, v2, v3, v4, v5, v6, v7, rfl, g0, g1, g2, g3, g4, g5, g6, g7⟩ := rA_8 hG
  clear hG
  obtain ⟨x0, rfl, b0, d0⟩ := rG_ref (by decide) g0
  obtain ⟨x1, rfl, b1, d1⟩ := aG_int g1
  dsimp only at b1 d1
  obtain ⟨x2, rfl, b2, d2⟩ := aG_int g2
  dsimp only at b2 d2
  obtain ⟨x3, rfl, b3, d3⟩ := aG_int g3
  dsimp only at b3 d3
  obtain ⟨x4, rfl, b4, d4⟩ := aG_int g4
  dsimp only at b4 d4
  obtain ⟨x5, rfl, b5, d5⟩ := aG_int g5
  dsimp only at b5 d5
  obtain ⟨x6, rfl, b6, d6⟩ := aG_int g6
  dsimp only at b6 d6
  obtain ⟨x7, rfl, b7, d7⟩ := aG_int g7
  dsimp only at b7 d7
  obtain ⟨m1, m2, m3, m4⟩ := hM0
  obtain ⟨T, hT⟩ := rTe_ex hH b0 d0
  have f0 : rB K n p 160 [rI x1, rI x2, rI x3, rI x4] σ := by
    obtain ⟨w, e6, e7⟩ := m4 (2564, [1, 2, 3, 4]) (List.mem_of_getElem? (i := 0) rfl)
    obtain rfl : [rI x1, rI x2, rI x3, rI x4] = w := Option.some.inj (show some [rI x1, rI x2, rI x3, rI x4] = some w from e6)
    exact (rF_b (r := 2564) (by decide) rfl).mp e7
  have f0 := ro_160.mp f0
  have f1 : rB K n p 412 [rI x1, rI x5] σ := by
    obtain ⟨w, e6, e7⟩ := m4 (6594, [1, 5]) (List.mem_of_getElem? (i := 1) rfl)
    obtain rfl : [rI x1, rI x5] = w := Option.some.inj (show some [rI x1, rI x5] = some w from e6)
    exact (rF_b (r := 6594) (by decide) rfl).mp e7
  have f1 := ro_412.mp f1
  have f2 : rB K n p 147 [rI x5, rI x6] σ := by
    obtain ⟨w, e6, e7⟩ := m4 (2354, [5, 6]) (List.mem_of_getElem? (i := 2) rfl)
    obtain rfl : [rI x5, rI x6] = w := Option.some.inj (show some [rI x5, rI x6] = some w from e6)
    exact (rF_b (r := 2354) (by decide) rfl).mp e7
  have f2 := ro_147.mp f2
  clear m1 m2 m3 m4
  have q0 : rB K n p 413 [rI x1, rI x7] σ := ro_413.mpr (by
    rw [← f1]
    omega)
  exact ⟨p, fun _ => rfl, ⟨(fun q h => by cases h), fun q h => (by cases h), (fun f h => by cases h), (aAllc ⟨_, rfl, (rF_b (r := 6610) (by decide) rfl).mpr q0⟩ (fun f h => by cases h))⟩, [], List.mem_cons_self, fun f h => (by cases h)⟩
theorem rw_rwWY {K : Nat → Nat} {n : Nat} {JX : (Nat → jcell) → Prop} : aGho (rF K n) fa_T K n JX ag_rwWY := by
  refine aGho_of ⟨rfl, rfl⟩ ?_
  intro p σ ρ hH hX hA hM0
  have hG := aAG_of hA.1 (fun i e v he hv => (hA.2 i e v he hv).1)
  clear hA
  obtain ⟨v0, v1, v2, v3, v4, v5, v6, v7, rfl, g0, g1, g2, g3, g4, g5, g6, g7⟩ := rA_8 hG
  clear hG
  obtain ⟨x0, rfl, b0, d0⟩ := rG_ref (by decide) g0
  obtain ⟨x1, rfl, b1, d1⟩ := aG_int g1
  dsimp only at b1 d1
  obtain ⟨x2, rfl, b2, d2⟩ := aG_int g2
  dsimp only at b2 d2
  obtain ⟨x3, rfl, b3, d3⟩ := aG_int g3
  dsimp only at b3 d3
  obtain ⟨x4, rfl, b4, d4⟩ := aG_int g4
  dsimp only at b4 d4
  obtain ⟨x5, rfl, b5, d5⟩ := aG_int g5
  dsimp only at b5 d5
  obtain ⟨x6, rfl, b6, d6⟩ := aG_int g6
  dsimp only at b6 d6
  obtain ⟨x7, rfl, b7, d7⟩ := aG_int g7
  dsimp only at b7 d7
  obtain ⟨m1, m2, m3, m4⟩ := hM0
  obtain ⟨T, hT⟩ := rTe_ex hH b0 d0
  have f0 : rB K n p 160 [rI x1, rI x2, rI x3, rI x4] σ := by
    obtain ⟨w, e6, e7⟩ := m4 (2564, [1, 2, 3, 4]) (List.mem_of_getElem? (i := 0) rfl)
    obtain rfl : [rI x1, rI x2, rI x3, rI x4] = w := Option.some.inj (show some [rI x1, rI x2, rI x3, rI x4] = some w from e6)
    exact (rF_b (r := 2564) (by decide) rfl).mp e7
  have f0 := ro_160.mp f0
  have f1 : rB K n p 412 [rI x1, rI x5] σ := by
    obtain ⟨w, e6, e7⟩ := m4 (6594, [1, 5]) (List.mem_of_getElem? (i := 1) rfl)
    obtain rfl : [rI x1, rI x5] = w := Option.some.inj (show some [rI x1, rI x5] = some w from e6)
    exact (rF_b (r := 6594) (by decide) rfl).mp e7
  have f1 := ro_412.mp f1
  have f2 : rB K n p 147 [rI x5, rI x6] σ := by
    obtain ⟨w, e6, e7⟩ := m4 (2354, [5, 6]) (List.mem_of_getElem? (i := 2) rfl)
    obtain rfl : [rI x5, rI x6] = w := Option.some.inj (show some [rI x5, rI x6] = some w from e6)
    exact (rF_b (r := 2354) (by decide) rfl).mp e7
  have f2 := ro_147.mp f2
  clear m1 m2 m3 m4
  have q0 : rB K n p 413 [rI x1, rI x7] σ := ro_413.mpr (by
    rw [← f1]
    omega)
  exact ⟨p, fun _ => rfl, ⟨(fun q h => by cases h), fun q h => (by cases h), (fun f h => by cases h), (aAllc ⟨_, rfl, (rF_b (r := 6610) (by decide) rfl).mpr q0⟩ (fun f h => by cases h))⟩, [], List.mem_cons_self, fun f h => (by cases h)⟩
theorem rw_rwRM {K : Nat → Nat} {n : Nat} {JX : (Nat → jcell) → Prop} : aGho (rF K n) fa_T K n JX ag_rwRM := by
  refine aGho_of ⟨rfl, rfl⟩ ?_
  intro p σ ρ hH hX hA hM0
  have hG := aAG_of hA.1 (fun i e v he hv => (hA.2 i e v he hv).1)
  clear hA
  obtain ⟨v0, v1, v2, rfl, g0, g1, g2⟩ := rA_3 hG
  clear hG
  obtain ⟨x0, rfl, b0, d0⟩ := aG_int g0
  dsimp only at b0 d0
  obtain ⟨x1, rfl, b1, d1⟩ := aG_int g1
  dsimp only at b1 d1
  obtain ⟨x2, rfl, b2, d2⟩ := aG_int g2
  dsimp only at b2 d2
  obtain ⟨m1, m2, m3, m4⟩ := hM0
  have l0 : 0 ≤ (1 * x1.toInt + (-1 * x0.toInt + (8 * x2.toInt + 0))) + 0 := by
    obtain ⟨z, e6, e7⟩ := m3 ([(1, 1), (0, -1), (2, 8)], 0) (List.mem_of_getElem? (i := 0) rfl)
    obtain rfl : (1 * x1.toInt + (-1 * x0.toInt + (8 * x2.toInt + 0))) = z := Option.some.inj (show some (1 * x1.toInt + (-1 * x0.toInt + (8 * x2.toInt + 0))) = some z from e6)
    exact e7
  have l1 : 0 ≤ (-1 * x1.toInt + (1 * x0.toInt + (-8 * x2.toInt + 0))) + 0 := by
    obtain ⟨z, e6, e7⟩ := m3 ([(1, -1), (0, 1), (2, -8)], 0) (List.mem_of_getElem? (i := 1) rfl)
    obtain rfl : (-1 * x1.toInt + (1 * x0.toInt + (-8 * x2.toInt + 0))) = z := Option.some.inj (show some (-1 * x1.toInt + (1 * x0.toInt + (-8 * x2.toInt + 0))) = some z from e6)
    exact e7
  clear m1 m2 m3 m4
  have q0 : rB K n p 218 [rI x0, rI x1] σ := ro_218.mpr (by
    omega)
  exact ⟨p, fun _ => rfl, ⟨(fun q h => by cases h), fun q h => (by cases h), (fun f h => by cases h), (aAllc ⟨_, rfl, (rF_b (r := 3490) (by decide) rfl).mpr q0⟩ (fun f h => by cases h))⟩, [], List.mem_cons_self, fun f h => (by cases h)⟩
theorem rw_rwRKd {K : Nat → Nat} {n : Nat} {JX : (Nat → jcell) → Prop} : aGho (rF K n) fa_T K n JX ag_rwRKd := by
  refine aGho_of ⟨rfl, rfl⟩ ?_
  intro p σ ρ hH hX hA hM0
  have hG := aAG_of hA.1 (fun i e v he hv => (hA.2 i e v he hv).1)
  clear hA
  obtain ⟨v0, v1, rfl, g0, g1⟩ := rA_2 hG
  clear hG
  obtain ⟨x0, rfl, b0, d0⟩ := aG_int g0
  dsimp only at b0 d0
  obtain ⟨x1, rfl, b1, d1⟩ := aG_int g1
  dsimp only at b1 d1
  obtain ⟨m1, m2, m3, m4⟩ := hM0
  have l0 : 0 ≤ (1 * x0.toInt + (-8 * x1.toInt + 0)) + 0 := by
    obtain ⟨z, e6, e7⟩ := m3 ([(0, 1), (1, -8)], 0) (List.mem_of_getElem? (i := 0) rfl)
    obtain rfl : (1 * x0.toInt + (-8 * x1.toInt + 0)) = z := Option.some.inj (show some (1 * x0.toInt + (-8 * x1.toInt + 0)) = some z from e6)
    exact e7
  have l1 : 0 ≤ (-1 * x0.toInt + (8 * x1.toInt + 0)) + 7 := by
    obtain ⟨z, e6, e7⟩ := m3 ([(0, -1), (1, 8)], 7) (List.mem_of_getElem? (i := 1) rfl)
    obtain rfl : (-1 * x0.toInt + (8 * x1.toInt + 0)) = z := Option.some.inj (show some (-1 * x0.toInt + (8 * x1.toInt + 0)) = some z from e6)
    exact e7
  clear m1 m2 m3 m4
  have q0 : rB K n p 157 [rI x0, rI x1] σ := ro_157.mpr (by
    omega)
  exact ⟨p, fun _ => rfl, ⟨(fun q h => by cases h), fun q h => (by cases h), (fun f h => by cases h), (aAllc ⟨_, rfl, (rF_b (r := 2514) (by decide) rfl).mpr q0⟩ (fun f h => by cases h))⟩, [], List.mem_cons_self, fun f h => (by cases h)⟩
theorem rw_rwFDu {K : Nat → Nat} {n : Nat} {JX : (Nat → jcell) → Prop} : aGho (rF K n) fa_T K n JX ag_rwFDu := by
  refine aGho_of ⟨rfl, rfl⟩ ?_
  intro p σ ρ hH hX hA hM0
  have hG := aAG_of hA.1 (fun i e v he hv => (hA.2 i e v he hv).1)
  clear hA
  obtain ⟨v0, v1, v2, v3, rfl, g0, g1, g2, g3⟩ := rA_4 hG
  clear hG
  obtain ⟨x0, rfl, b0, d0⟩ := aG_int g0
  dsimp only at b0 d0
  obtain ⟨x1, rfl, b1, d1⟩ := aG_int g1
  dsimp only at b1 d1
  obtain ⟨x2, rfl, b2, d2⟩ := aG_int g2
  dsimp only at b2 d2
  obtain ⟨x3, rfl, b3, d3⟩ := aG_int g3
  dsimp only at b3 d3
  obtain ⟨m1, m2, m3, m4⟩ := hM0
  have l0 : 0 ≤ (1 * x2.toInt + (-1 * x3.toInt + 0)) + -1 := by
    obtain ⟨z, e6, e7⟩ := m3 ([(2, 1), (3, -1)], -1) (List.mem_of_getElem? (i := 0) rfl)
    obtain rfl : (1 * x2.toInt + (-1 * x3.toInt + 0)) = z := Option.some.inj (show some (1 * x2.toInt + (-1 * x3.toInt + 0)) = some z from e6)
    exact e7
  have f0 : rB K n p 218 [rI x0, rI x2] σ := by
    obtain ⟨w, e6, e7⟩ := m4 (3490, [0, 2]) (List.mem_of_getElem? (i := 0) rfl)
    obtain rfl : [rI x0, rI x2] = w := Option.some.inj (show some [rI x0, rI x2] = some w from e6)
    exact (rF_b (r := 3490) (by decide) rfl).mp e7
  have f0 := ro_218.mp f0
  have f1 : rB K n p 218 [rI x1, rI x3] σ := by
    obtain ⟨w, e6, e7⟩ := m4 (3490, [1, 3]) (List.mem_of_getElem? (i := 1) rfl)
    obtain rfl : [rI x1, rI x3] = w := Option.some.inj (show some [rI x1, rI x3] = some w from e6)
    exact (rF_b (r := 3490) (by decide) rfl).mp e7
  have f1 := ro_218.mp f1
  clear m1 m2 m3 m4
  have q0 : rB K n p 217 [rI x0, rI x1] σ := ro_217.mpr (by
    omega)
  exact ⟨p, fun _ => rfl, ⟨(fun q h => by cases h), fun q h => (by cases h), (fun f h => by cases h), (aAllc ⟨_, rfl, (rF_b (r := 3474) (by decide) rfl).mpr q0⟩ (fun f h => by cases h))⟩, [], List.mem_cons_self, fun f h => (by cases h)⟩
theorem rw_rwFDd {K : Nat → Nat} {n : Nat} {JX : (Nat → jcell) → Prop} : aGho (rF K n) fa_T K n JX ag_rwFDd := by
  refine aGho_of ⟨rfl, rfl⟩ ?_
  intro p σ ρ hH hX hA hM0
  have hG := aAG_of hA.1 (fun i e v he hv => (hA.2 i e v he hv).1)
  clear hA
  obtain ⟨v0, v1, v2, v3, rfl, g0, g1, g2, g3⟩ := rA_4 hG
  clear hG
  obtain ⟨x0, rfl, b0, d0⟩ := aG_int g0
  dsimp only at b0 d0
  obtain ⟨x1, rfl, b1, d1⟩ := aG_int g1
  dsimp only at b1 d1
  obtain ⟨x2, rfl, b2, d2⟩ := aG_int g2
  dsimp only at b2 d2
  obtain ⟨x3, rfl, b3, d3⟩ := aG_int g3
  dsimp only at b3 d3
  obtain ⟨m1, m2, m3, m4⟩ := hM0
  have l0 : 0 ≤ (-1 * x2.toInt + (1 * x3.toInt + 0)) + -1 := by
    obtain ⟨z, e6, e7⟩ := m3 ([(2, -1), (3, 1)], -1) (List.mem_of_getElem? (i := 0) rfl)
    obtain rfl : (-1 * x2.toInt + (1 * x3.toInt + 0)) = z := Option.some.inj (show some (-1 * x2.toInt + (1 * x3.toInt + 0)) = some z from e6)
    exact e7
  have f0 : rB K n p 218 [rI x0, rI x2] σ := by
    obtain ⟨w, e6, e7⟩ := m4 (3490, [0, 2]) (List.mem_of_getElem? (i := 0) rfl)
    obtain rfl : [rI x0, rI x2] = w := Option.some.inj (show some [rI x0, rI x2] = some w from e6)
    exact (rF_b (r := 3490) (by decide) rfl).mp e7
  have f0 := ro_218.mp f0
  have f1 : rB K n p 218 [rI x1, rI x3] σ := by
    obtain ⟨w, e6, e7⟩ := m4 (3490, [1, 3]) (List.mem_of_getElem? (i := 1) rfl)
    obtain rfl : [rI x1, rI x3] = w := Option.some.inj (show some [rI x1, rI x3] = some w from e6)
    exact (rF_b (r := 3490) (by decide) rfl).mp e7
  have f1 := ro_218.mp f1
  clear m1 m2 m3 m4
  have q0 : rB K n p 217 [rI x0, rI x1] σ := ro_217.mpr (by
    omega)
  exact ⟨p, fun _ => rfl, ⟨(fun q h => by cases h), fun q h => (by cases h), (fun f h => by cases h), (aAllc ⟨_, rfl, (rF_b (r := 3474) (by decide) rfl).mpr q0⟩ (fun f h => by cases h))⟩, [], List.mem_cons_self, fun f h => (by cases h)⟩
theorem rw_rwU0p {K : Nat → Nat} {n : Nat} {JX : (Nat → jcell) → Prop} : aGho (rF K n) fa_T K n JX ag_rwU0p := by
  refine aGho_of ⟨rfl, rfl⟩ ?_
  intro p σ ρ hH hX hA hM0
  have hG := aAG_of hA.1 (fun i e v he hv => (hA.2 i e v he hv).1)
  clear hA
  obtain ⟨v0, v1, v2, v3, v4, v5, v6, v7, v8, v9, v10, v11, rfl, g0, g1, g2, g3, g4, g5, g6, g7, g8, g9, g10, g11⟩ := rA_12 hG
  clear hG
  obtain ⟨x0, rfl, b0, d0⟩ := rG_ref (by decide) g0
  obtain ⟨x1, rfl, b1, d1⟩ := rG_ref (by decide) g1
  obtain ⟨x2, rfl, b2, d2⟩ := aG_int g2
  dsimp only at b2 d2
  obtain ⟨x3, rfl, b3, d3⟩ := aG_int g3
  dsimp only at b3 d3
  obtain ⟨x4, rfl, b4, d4⟩ := aG_int g4
  dsimp only at b4 d4
  obtain ⟨x5, rfl, b5, d5⟩ := aG_int g5
  dsimp only at b5 d5
  obtain ⟨x6, rfl, b6, d6⟩ := aG_int g6
  dsimp only at b6 d6
  obtain ⟨x7, rfl, b7, d7⟩ := aG_int g7
  dsimp only at b7 d7
  obtain ⟨x8, rfl, b8, d8⟩ := aG_int g8
  dsimp only at b8 d8
  obtain ⟨x9, rfl, b9, d9⟩ := aG_int g9
  dsimp only at b9 d9
  obtain ⟨x10, rfl, b10, d10⟩ := aG_int g10
  dsimp only at b10 d10
  obtain ⟨x11, rfl, b11, d11⟩ := aG_int g11
  dsimp only at b11 d11
  obtain ⟨m1, m2, m3, m4⟩ := hM0
  obtain ⟨T, hT⟩ := rTe_ex hH b0 d0
  obtain ⟨a0, c0, fs0, w0, e1, s0, t0, e4⟩ := m1 (0, 24, 1) (List.mem_of_getElem? (i := 0) rfl)
  obtain rfl : x0 = a0 := Sum.inl.inj (Option.some.inj (Sum.inr.inj (Sum.inr.inj (Option.some.inj (show some (rR x0) = some _ from e1)))))
  obtain rfl : rR x1 = w0 := Option.some.inj (show some (rR x1) = some w0 from e4)
  clear e1 e4
  obtain ⟨a, mc0, ty0, gc0, ic0, e1, sc0, jc0, e4, e5⟩ := m2 (1, ([(4, 1)], 0), 7) (List.mem_of_getElem? (i := 0) rfl)
  obtain rfl : x1 = a := Sum.inl.inj (Option.some.inj (Sum.inr.inj (Sum.inr.inj (Option.some.inj (show some (rR x1) = some _ from e1)))))
  obtain ⟨gc0, rfl⟩ : ∃ g, gc0 = .inl g := by
    rcases gc0 with g | g
    · exact ⟨g, rfl⟩
    · exact absurd (show some (rI x7) = some (.inr (.inl (g ic0))) from e5) (fun h => by cases h)
  have sc0 : σ x1 = .inl (ty0, mc0, .inl gc0) := sc0
  have ec0 : x7 = gc0 ic0 := Sum.inl.inj (Option.some.inj (show some (rI x7) = some _ from e5))
  have kc0 : (ic0 : Int) = (1 * x4.toInt + 0) + 0 := by
    obtain ⟨z, e6, e7⟩ := e4
    obtain rfl : (1 * x4.toInt + 0) = z := Option.some.inj (show some (1 * x4.toInt + 0) = some z from e6)
    exact e7
  clear e1 e4 e5
  have l0 : 0 ≤ (1 * x8.toInt + (-8 * x9.toInt + (-1 * x10.toInt + 0))) + 0 := by
    obtain ⟨z, e6, e7⟩ := m3 ([(8, 1), (9, -8), (10, -1)], 0) (List.mem_of_getElem? (i := 0) rfl)
    obtain rfl : (1 * x8.toInt + (-8 * x9.toInt + (-1 * x10.toInt + 0))) = z := Option.some.inj (show some (1 * x8.toInt + (-8 * x9.toInt + (-1 * x10.toInt + 0))) = some z from e6)
    exact e7
  have l1 : 0 ≤ (-1 * x8.toInt + (8 * x9.toInt + (1 * x10.toInt + 0))) + 0 := by
    obtain ⟨z, e6, e7⟩ := m3 ([(8, -1), (9, 8), (10, 1)], 0) (List.mem_of_getElem? (i := 1) rfl)
    obtain rfl : (-1 * x8.toInt + (8 * x9.toInt + (1 * x10.toInt + 0))) = z := Option.some.inj (show some (-1 * x8.toInt + (8 * x9.toInt + (1 * x10.toInt + 0))) = some z from e6)
    exact e7
  have y0 : T x4.toInt = x7.toInt := rMg_c hT s0 t0 sc0 (by omega) (by omega) (by omega) ec0
  have f0 : rB K n p 400 [rR x0] σ := by
    obtain ⟨w, e6, e7⟩ := m4 (6401, [0]) (List.mem_of_getElem? (i := 0) rfl)
    obtain rfl : [rR x0] = w := Option.some.inj (show some [rR x0] = some w from e6)
    exact (rF_b (r := 6401) (by decide) rfl).mp e7
  obtain ⟨hp, hR⟩ := ro_400.mp f0
  obtain rfl := rMg_u hT hR.1
  have f1 : rB K n p 160 [rI x2, rI x3, rI x4, rI x5] σ := by
    obtain ⟨w, e6, e7⟩ := m4 (2564, [2, 3, 4, 5]) (List.mem_of_getElem? (i := 1) rfl)
    obtain rfl : [rI x2, rI x3, rI x4, rI x5] = w := Option.some.inj (show some [rI x2, rI x3, rI x4, rI x5] = some w from e6)
    exact (rF_b (r := 2564) (by decide) rfl).mp e7
  have f1 := ro_160.mp f1
  have f2 : rB K n p 413 [rI x2, rI x6] σ := by
    obtain ⟨w, e6, e7⟩ := m4 (6610, [2, 6]) (List.mem_of_getElem? (i := 2) rfl)
    obtain rfl : [rI x2, rI x6] = w := Option.some.inj (show some [rI x2, rI x6] = some w from e6)
    exact (rF_b (r := 6610) (by decide) rfl).mp e7
  have f2 := ro_413.mp f2
  have f3 : rB K n p 217 [rI x3, rI x4] σ := by
    obtain ⟨w, e6, e7⟩ := m4 (3474, [3, 4]) (List.mem_of_getElem? (i := 3) rfl)
    obtain rfl : [rI x3, rI x4] = w := Option.some.inj (show some [rI x3, rI x4] = some w from e6)
    exact (rF_b (r := 3474) (by decide) rfl).mp e7
  have f3 := ro_217.mp f3
  have f4 : rB K n p 157 [rI x3, rI x9] σ := by
    obtain ⟨w, e6, e7⟩ := m4 (2514, [3, 9]) (List.mem_of_getElem? (i := 4) rfl)
    obtain rfl : [rI x3, rI x9] = w := Option.some.inj (show some [rI x3, rI x9] = some w from e6)
    exact (rF_b (r := 2514) (by decide) rfl).mp e7
  have f4 := ro_157.mp f4
  have f5 : rB K n p 218 [rI x4, rI x10] σ := by
    obtain ⟨w, e6, e7⟩ := m4 (3490, [4, 10]) (List.mem_of_getElem? (i := 5) rfl)
    obtain rfl : [rI x4, rI x10] = w := Option.some.inj (show some [rI x4, rI x10] = some w from e6)
    exact (rF_b (r := 3490) (by decide) rfl).mp e7
  have f5 := ro_218.mp f5
  clear m1 m2 m3 m4
  have q0 : rB K n p 406 [rR x0, rI x2] (jup σ x1 (jsto (σ x1) x8.toNatClampNeg x11)) := ro_406.mpr ⟨_, rMg_up hT s0 t0 b8 d8, by
    have hv : rVd p.1 x2.toInt := by
      unfold rVd
      rw [← f1.1, ← f1.2.1]
      refine ⟨?_, by omega, f3⟩
      rw [f1.1]
      omega
    refine ⟨hp, ?_⟩
    rw [rV0_y hv, ← f1.1, ← f1.2.1, show x8.toInt = 8 * (x3.toInt / 8) + x4.toInt % 8 by omega, show x11.toInt = 0 by omega]⟩
  exact ⟨p, fun _ => rfl, ⟨(fun q h => by cases h), fun q h => (by cases h), (fun f h => by cases h), (aAllc ⟨_, rfl, rF_p (r := 6498) (by decide) (by decide) q0⟩ (fun f h => by cases h))⟩, [], List.mem_cons_self, fun f h => (by cases h)⟩
theorem rw_rwU0a {K : Nat → Nat} {n : Nat} {JX : (Nat → jcell) → Prop} : aGho (rF K n) fa_T K n JX ag_rwU0a := by
  refine aGho_of ⟨rfl, rfl⟩ ?_
  intro p σ ρ hH hX hA hM0
  have hG := aAG_of hA.1 (fun i e v he hv => (hA.2 i e v he hv).1)
  clear hA
  obtain ⟨v0, v1, v2, v3, v4, v5, rfl, g0, g1, g2, g3, g4, g5⟩ := rA_6 hG
  clear hG
  obtain ⟨x0, rfl, b0, d0⟩ := rG_ref (by decide) g0
  obtain ⟨x1, rfl, b1, d1⟩ := aG_int g1
  dsimp only at b1 d1
  obtain ⟨x2, rfl, b2, d2⟩ := aG_int g2
  dsimp only at b2 d2
  obtain ⟨x3, rfl, b3, d3⟩ := aG_int g3
  dsimp only at b3 d3
  obtain ⟨x4, rfl, b4, d4⟩ := aG_int g4
  dsimp only at b4 d4
  obtain ⟨x5, rfl, b5, d5⟩ := aG_int g5
  dsimp only at b5 d5
  obtain ⟨m1, m2, m3, m4⟩ := hM0
  obtain ⟨T, hT⟩ := rTe_ex hH b0 d0
  have f0 : rB K n p 400 [rR x0] σ := by
    obtain ⟨w, e6, e7⟩ := m4 (6401, [0]) (List.mem_of_getElem? (i := 0) rfl)
    obtain rfl : [rR x0] = w := Option.some.inj (show some [rR x0] = some w from e6)
    exact (rF_b (r := 6401) (by decide) rfl).mp e7
  obtain ⟨hp, hR⟩ := ro_400.mp f0
  obtain rfl := rMg_u hT hR.1
  have f1 : rB K n p 160 [rI x1, rI x2, rI x3, rI x4] σ := by
    obtain ⟨w, e6, e7⟩ := m4 (2564, [1, 2, 3, 4]) (List.mem_of_getElem? (i := 1) rfl)
    obtain rfl : [rI x1, rI x2, rI x3, rI x4] = w := Option.some.inj (show some [rI x1, rI x2, rI x3, rI x4] = some w from e6)
    exact (rF_b (r := 2564) (by decide) rfl).mp e7
  have f1 := ro_160.mp f1
  have f2 : rB K n p 413 [rI x1, rI x5] σ := by
    obtain ⟨w, e6, e7⟩ := m4 (6610, [1, 5]) (List.mem_of_getElem? (i := 2) rfl)
    obtain rfl : [rI x1, rI x5] = w := Option.some.inj (show some [rI x1, rI x5] = some w from e6)
    exact (rF_b (r := 6610) (by decide) rfl).mp e7
  have f2 := ro_413.mp f2
  clear m1 m2 m3 m4
  have q0 : rB K n p 406 [rR x0, rI x1] σ := ro_406.mpr ⟨_, hT, by
    have hv : ¬ rVd p.1 x1.toInt := by
      unfold rVd
      omega
    refine ⟨hp, ?_⟩
    rw [rV0_n hv]⟩
  exact ⟨p, fun _ => rfl, ⟨(fun q h => by cases h), fun q h => (by cases h), (fun f h => by cases h), (aAllc ⟨_, rfl, (rF_b (r := 6498) (by decide) rfl).mpr q0⟩ (fun f h => by cases h))⟩, [], List.mem_cons_self, fun f h => (by cases h)⟩
theorem rw_rwU0b {K : Nat → Nat} {n : Nat} {JX : (Nat → jcell) → Prop} : aGho (rF K n) fa_T K n JX ag_rwU0b := by
  refine aGho_of ⟨rfl, rfl⟩ ?_
  intro p σ ρ hH hX hA hM0
  have hG := aAG_of hA.1 (fun i e v he hv => (hA.2 i e v he hv).1)
  clear hA
  obtain ⟨v0, v1, v2, v3, v4, v5, v6, rfl, g0, g1, g2, g3, g4, g5, g6⟩ := rA_7 hG
  clear hG
  obtain ⟨x0, rfl, b0, d0⟩ := rG_ref (by decide) g0
  obtain ⟨x1, rfl, b1, d1⟩ := aG_int g1
  dsimp only at b1 d1
  obtain ⟨x2, rfl, b2, d2⟩ := aG_int g2
  dsimp only at b2 d2
  obtain ⟨x3, rfl, b3, d3⟩ := aG_int g3
  dsimp only at b3 d3
  obtain ⟨x4, rfl, b4, d4⟩ := aG_int g4
  dsimp only at b4 d4
  obtain ⟨x5, rfl, b5, d5⟩ := aG_int g5
  dsimp only at b5 d5
  obtain ⟨x6, rfl, b6, d6⟩ := rG_ref (by decide) g6
  obtain ⟨m1, m2, m3, m4⟩ := hM0
  obtain ⟨T, hT⟩ := rTe_ex hH b0 d0
  obtain ⟨a0, c0, fs0, w0, e1, s0, t0, e4⟩ := m1 (0, 24, 6) (List.mem_of_getElem? (i := 0) rfl)
  obtain rfl : x0 = a0 := Sum.inl.inj (Option.some.inj (Sum.inr.inj (Sum.inr.inj (Option.some.inj (show some (rR x0) = some _ from e1)))))
  obtain rfl : rR x6 = w0 := Option.some.inj (show some (rR x6) = some w0 from e4)
  clear e1 e4
  obtain ⟨a, mc0, ty0, gc0, ic0, e1, sc0, jc0, e4, e5⟩ := m2 (6, ([(3, 1)], 0), 5) (List.mem_of_getElem? (i := 0) rfl)
  obtain rfl : x6 = a := Sum.inl.inj (Option.some.inj (Sum.inr.inj (Sum.inr.inj (Option.some.inj (show some (rR x6) = some _ from e1)))))
  obtain ⟨gc0, rfl⟩ : ∃ g, gc0 = .inl g := by
    rcases gc0 with g | g
    · exact ⟨g, rfl⟩
    · exact absurd (show some (rI x5) = some (.inr (.inl (g ic0))) from e5) (fun h => by cases h)
  have sc0 : σ x6 = .inl (ty0, mc0, .inl gc0) := sc0
  have ec0 : x5 = gc0 ic0 := Sum.inl.inj (Option.some.inj (show some (rI x5) = some _ from e5))
  have kc0 : (ic0 : Int) = (1 * x3.toInt + 0) + 0 := by
    obtain ⟨z, e6, e7⟩ := e4
    obtain rfl : (1 * x3.toInt + 0) = z := Option.some.inj (show some (1 * x3.toInt + 0) = some z from e6)
    exact e7
  clear e1 e4 e5
  have y0 : T x3.toInt = x5.toInt := rMg_c hT s0 t0 sc0 (by omega) (by omega) (by omega) ec0
  have f0 : rB K n p 400 [rR x0] σ := by
    obtain ⟨w, e6, e7⟩ := m4 (6401, [0]) (List.mem_of_getElem? (i := 0) rfl)
    obtain rfl : [rR x0] = w := Option.some.inj (show some [rR x0] = some w from e6)
    exact (rF_b (r := 6401) (by decide) rfl).mp e7
  obtain ⟨hp, hR⟩ := ro_400.mp f0
  obtain rfl := rMg_u hT hR.1
  have f1 : rB K n p 160 [rI x1, rI x2, rI x3, rI x4] σ := by
    obtain ⟨w, e6, e7⟩ := m4 (2564, [1, 2, 3, 4]) (List.mem_of_getElem? (i := 1) rfl)
    obtain rfl : [rI x1, rI x2, rI x3, rI x4] = w := Option.some.inj (show some [rI x1, rI x2, rI x3, rI x4] = some w from e6)
    exact (rF_b (r := 2564) (by decide) rfl).mp e7
  have f1 := ro_160.mp f1
  clear m1 m2 m3 m4
  have q0 : rB K n p 406 [rR x0, rI x1] σ := ro_406.mpr ⟨_, hT, by
    have hv : ¬ rVd p.1 x1.toInt := by
      unfold rVd
      rw [← f1.2.1]
      omega
    refine ⟨hp, ?_⟩
    rw [rV0_n hv]⟩
  exact ⟨p, fun _ => rfl, ⟨(fun q h => by cases h), fun q h => (by cases h), (fun f h => by cases h), (aAllc ⟨_, rfl, (rF_b (r := 6498) (by decide) rfl).mpr q0⟩ (fun f h => by cases h))⟩, [], List.mem_cons_self, fun f h => (by cases h)⟩
theorem rw_rwU0c {K : Nat → Nat} {n : Nat} {JX : (Nat → jcell) → Prop} : aGho (rF K n) fa_T K n JX ag_rwU0c := by
  refine aGho_of ⟨rfl, rfl⟩ ?_
  intro p σ ρ hH hX hA hM0
  have hG := aAG_of hA.1 (fun i e v he hv => (hA.2 i e v he hv).1)
  clear hA
  obtain ⟨v0, v1, v2, v3, v4, v5, v6, rfl, g0, g1, g2, g3, g4, g5, g6⟩ := rA_7 hG
  clear hG
  obtain ⟨x0, rfl, b0, d0⟩ := rG_ref (by decide) g0
  obtain ⟨x1, rfl, b1, d1⟩ := aG_int g1
  dsimp only at b1 d1
  obtain ⟨x2, rfl, b2, d2⟩ := aG_int g2
  dsimp only at b2 d2
  obtain ⟨x3, rfl, b3, d3⟩ := aG_int g3
  dsimp only at b3 d3
  obtain ⟨x4, rfl, b4, d4⟩ := aG_int g4
  dsimp only at b4 d4
  obtain ⟨x5, rfl, b5, d5⟩ := aG_int g5
  dsimp only at b5 d5
  obtain ⟨x6, rfl, b6, d6⟩ := aG_int g6
  dsimp only at b6 d6
  obtain ⟨m1, m2, m3, m4⟩ := hM0
  obtain ⟨T, hT⟩ := rTe_ex hH b0 d0
  have l0 : 0 ≤ (1 * x5.toInt + (-1 * x6.toInt + 0)) + 0 := by
    obtain ⟨z, e6, e7⟩ := m3 ([(5, 1), (6, -1)], 0) (List.mem_of_getElem? (i := 0) rfl)
    obtain rfl : (1 * x5.toInt + (-1 * x6.toInt + 0)) = z := Option.some.inj (show some (1 * x5.toInt + (-1 * x6.toInt + 0)) = some z from e6)
    exact e7
  have l1 : 0 ≤ (-1 * x5.toInt + (1 * x6.toInt + 0)) + 0 := by
    obtain ⟨z, e6, e7⟩ := m3 ([(5, -1), (6, 1)], 0) (List.mem_of_getElem? (i := 1) rfl)
    obtain rfl : (-1 * x5.toInt + (1 * x6.toInt + 0)) = z := Option.some.inj (show some (-1 * x5.toInt + (1 * x6.toInt + 0)) = some z from e6)
    exact e7
  have f0 : rB K n p 400 [rR x0] σ := by
    obtain ⟨w, e6, e7⟩ := m4 (6401, [0]) (List.mem_of_getElem? (i := 0) rfl)
    obtain rfl : [rR x0] = w := Option.some.inj (show some [rR x0] = some w from e6)
    exact (rF_b (r := 6401) (by decide) rfl).mp e7
  obtain ⟨hp, hR⟩ := ro_400.mp f0
  obtain rfl := rMg_u hT hR.1
  have f1 : rB K n p 160 [rI x1, rI x2, rI x3, rI x4] σ := by
    obtain ⟨w, e6, e7⟩ := m4 (2564, [1, 2, 3, 4]) (List.mem_of_getElem? (i := 1) rfl)
    obtain rfl : [rI x1, rI x2, rI x3, rI x4] = w := Option.some.inj (show some [rI x1, rI x2, rI x3, rI x4] = some w from e6)
    exact (rF_b (r := 2564) (by decide) rfl).mp e7
  have f1 := ro_160.mp f1
  have f2 : rB K n p 218 [rI x2, rI x5] σ := by
    obtain ⟨w, e6, e7⟩ := m4 (3490, [2, 5]) (List.mem_of_getElem? (i := 2) rfl)
    obtain rfl : [rI x2, rI x5] = w := Option.some.inj (show some [rI x2, rI x5] = some w from e6)
    exact (rF_b (r := 3490) (by decide) rfl).mp e7
  have f2 := ro_218.mp f2
  have f3 : rB K n p 218 [rI x3, rI x6] σ := by
    obtain ⟨w, e6, e7⟩ := m4 (3490, [3, 6]) (List.mem_of_getElem? (i := 3) rfl)
    obtain rfl : [rI x3, rI x6] = w := Option.some.inj (show some [rI x3, rI x6] = some w from e6)
    exact (rF_b (r := 3490) (by decide) rfl).mp e7
  have f3 := ro_218.mp f3
  clear m1 m2 m3 m4
  have q0 : rB K n p 406 [rR x0, rI x1] σ := ro_406.mpr ⟨_, hT, by
    have hv : ¬ rVd p.1 x1.toInt := by
      unfold rVd
      rw [← f1.1, ← f1.2.1]
      omega
    refine ⟨hp, ?_⟩
    rw [rV0_n hv]⟩
  exact ⟨p, fun _ => rfl, ⟨(fun q h => by cases h), fun q h => (by cases h), (fun f h => by cases h), (aAllc ⟨_, rfl, (rF_b (r := 6498) (by decide) rfl).mpr q0⟩ (fun f h => by cases h))⟩, [], List.mem_cons_self, fun f h => (by cases h)⟩
theorem rw_rwTCAu {K : Nat → Nat} {n : Nat} {JX : (Nat → jcell) → Prop} : aGho (rF K n) fa_T K n JX ag_rwTCAu := by
  refine aGho_of ⟨rfl, rfl⟩ ?_
  intro p σ ρ hH hX hA hM0
  have hG := aAG_of hA.1 (fun i e v he hv => (hA.2 i e v he hv).1)
  clear hA
  obtain ⟨v0, v1, v2, v3, v4, v5, v6, v7, v8, rfl, g0, g1, g2, g3, g4, g5, g6, g7, g8⟩ := rA_9 hG
  clear hG
  obtain ⟨x0, rfl, b0, d0⟩ := rG_ref (by decide) g0
  obtain ⟨x1, rfl, b1, d1⟩ := aG_int g1
  dsimp only at b1 d1
  obtain ⟨x2, rfl, b2, d2⟩ := aG_int g2
  dsimp only at b2 d2
  obtain ⟨x3, rfl, b3, d3⟩ := aG_int g3
  dsimp only at b3 d3
  obtain ⟨x4, rfl, b4, d4⟩ := aG_int g4
  dsimp only at b4 d4
  obtain ⟨x5, rfl, b5, d5⟩ := aG_int g5
  dsimp only at b5 d5
  obtain ⟨x6, rfl, b6, d6⟩ := aG_int g6
  dsimp only at b6 d6
  obtain ⟨x7, rfl, b7, d7⟩ := aG_int g7
  dsimp only at b7 d7
  obtain ⟨x8, rfl, b8, d8⟩ := aG_int g8
  dsimp only at b8 d8
  obtain ⟨m1, m2, m3, m4⟩ := hM0
  obtain ⟨T, hT⟩ := rTe_ex hH b0 d0
  have f0 : rB K n p 160 [rI x1, rI x2, rI x3, rI x4] σ := by
    obtain ⟨w, e6, e7⟩ := m4 (2564, [1, 2, 3, 4]) (List.mem_of_getElem? (i := 0) rfl)
    obtain rfl : [rI x1, rI x2, rI x3, rI x4] = w := Option.some.inj (show some [rI x1, rI x2, rI x3, rI x4] = some w from e6)
    exact (rF_b (r := 2564) (by decide) rfl).mp e7
  have f0 := ro_160.mp f0
  have f1 : rB K n p 412 [rI x1, rI x5] σ := by
    obtain ⟨w, e6, e7⟩ := m4 (6594, [1, 5]) (List.mem_of_getElem? (i := 1) rfl)
    obtain rfl : [rI x1, rI x5] = w := Option.some.inj (show some [rI x1, rI x5] = some w from e6)
    exact (rF_b (r := 6594) (by decide) rfl).mp e7
  have f1 := ro_412.mp f1
  have f2 : rB K n p 147 [rI x5, rI x6] σ := by
    obtain ⟨w, e6, e7⟩ := m4 (2354, [5, 6]) (List.mem_of_getElem? (i := 2) rfl)
    obtain rfl : [rI x5, rI x6] = w := Option.some.inj (show some [rI x5, rI x6] = some w from e6)
    exact (rF_b (r := 2354) (by decide) rfl).mp e7
  have f2 := ro_147.mp f2
  have f3 : rB K n p 218 [rI x2, rI x7] σ := by
    obtain ⟨w, e6, e7⟩ := m4 (3490, [2, 7]) (List.mem_of_getElem? (i := 3) rfl)
    obtain rfl : [rI x2, rI x7] = w := Option.some.inj (show some [rI x2, rI x7] = some w from e6)
    exact (rF_b (r := 3490) (by decide) rfl).mp e7
  have f3 := ro_218.mp f3
  have f4 : rB K n p 218 [rI x3, rI x8] σ := by
    obtain ⟨w, e6, e7⟩ := m4 (3490, [3, 8]) (List.mem_of_getElem? (i := 4) rfl)
    obtain rfl : [rI x3, rI x8] = w := Option.some.inj (show some [rI x3, rI x8] = some w from e6)
    exact (rF_b (r := 3490) (by decide) rfl).mp e7
  have f4 := ro_218.mp f4
  clear m1 m2 m3 m4
  have q0 : rB K n p 423 [rI x1, rI x8] σ := ro_423.mpr (by
    rw [← f1, ← f0.1, ← f0.2.1]
    omega)
  exact ⟨p, fun _ => rfl, ⟨(fun q h => by cases h), fun q h => (by cases h), (fun f h => by cases h), (aAllc ⟨_, rfl, (rF_b (r := 6770) (by decide) rfl).mpr q0⟩ (fun f h => by cases h))⟩, [], List.mem_cons_self, fun f h => (by cases h)⟩
theorem rw_rwTCAd {K : Nat → Nat} {n : Nat} {JX : (Nat → jcell) → Prop} : aGho (rF K n) fa_T K n JX ag_rwTCAd := by
  refine aGho_of ⟨rfl, rfl⟩ ?_
  intro p σ ρ hH hX hA hM0
  have hG := aAG_of hA.1 (fun i e v he hv => (hA.2 i e v he hv).1)
  clear hA
  obtain ⟨v0, v1, v2, v3, v4, v5, v6, v7, v8, rfl, g0, g1, g2, g3, g4, g5, g6, g7, g8⟩ := rA_9 hG
  clear hG
  obtain ⟨x0, rfl, b0, d0⟩ := rG_ref (by decide) g0
  obtain ⟨x1, rfl, b1, d1⟩ := aG_int g1
  dsimp only at b1 d1
  obtain ⟨x2, rfl, b2, d2⟩ := aG_int g2
  dsimp only at b2 d2
  obtain ⟨x3, rfl, b3, d3⟩ := aG_int g3
  dsimp only at b3 d3
  obtain ⟨x4, rfl, b4, d4⟩ := aG_int g4
  dsimp only at b4 d4
  obtain ⟨x5, rfl, b5, d5⟩ := aG_int g5
  dsimp only at b5 d5
  obtain ⟨x6, rfl, b6, d6⟩ := aG_int g6
  dsimp only at b6 d6
  obtain ⟨x7, rfl, b7, d7⟩ := aG_int g7
  dsimp only at b7 d7
  obtain ⟨x8, rfl, b8, d8⟩ := aG_int g8
  dsimp only at b8 d8
  obtain ⟨m1, m2, m3, m4⟩ := hM0
  obtain ⟨T, hT⟩ := rTe_ex hH b0 d0
  have f0 : rB K n p 160 [rI x1, rI x2, rI x3, rI x4] σ := by
    obtain ⟨w, e6, e7⟩ := m4 (2564, [1, 2, 3, 4]) (List.mem_of_getElem? (i := 0) rfl)
    obtain rfl : [rI x1, rI x2, rI x3, rI x4] = w := Option.some.inj (show some [rI x1, rI x2, rI x3, rI x4] = some w from e6)
    exact (rF_b (r := 2564) (by decide) rfl).mp e7
  have f0 := ro_160.mp f0
  have f1 : rB K n p 412 [rI x1, rI x5] σ := by
    obtain ⟨w, e6, e7⟩ := m4 (6594, [1, 5]) (List.mem_of_getElem? (i := 1) rfl)
    obtain rfl : [rI x1, rI x5] = w := Option.some.inj (show some [rI x1, rI x5] = some w from e6)
    exact (rF_b (r := 6594) (by decide) rfl).mp e7
  have f1 := ro_412.mp f1
  have f2 : rB K n p 147 [rI x5, rI x6] σ := by
    obtain ⟨w, e6, e7⟩ := m4 (2354, [5, 6]) (List.mem_of_getElem? (i := 2) rfl)
    obtain rfl : [rI x5, rI x6] = w := Option.some.inj (show some [rI x5, rI x6] = some w from e6)
    exact (rF_b (r := 2354) (by decide) rfl).mp e7
  have f2 := ro_147.mp f2
  have f3 : rB K n p 218 [rI x2, rI x7] σ := by
    obtain ⟨w, e6, e7⟩ := m4 (3490, [2, 7]) (List.mem_of_getElem? (i := 3) rfl)
    obtain rfl : [rI x2, rI x7] = w := Option.some.inj (show some [rI x2, rI x7] = some w from e6)
    exact (rF_b (r := 3490) (by decide) rfl).mp e7
  have f3 := ro_218.mp f3
  have f4 : rB K n p 218 [rI x3, rI x8] σ := by
    obtain ⟨w, e6, e7⟩ := m4 (3490, [3, 8]) (List.mem_of_getElem? (i := 4) rfl)
    obtain rfl : [rI x3, rI x8] = w := Option.some.inj (show some [rI x3, rI x8] = some w from e6)
    exact (rF_b (r := 3490) (by decide) rfl).mp e7
  have f4 := ro_218.mp f4
  clear m1 m2 m3 m4
  have q0 : rB K n p 423 [rI x1, rI x8] σ := ro_423.mpr (by
    rw [← f1, ← f0.1, ← f0.2.1]
    omega)
  exact ⟨p, fun _ => rfl, ⟨(fun q h => by cases h), fun q h => (by cases h), (fun f h => by cases h), (aAllc ⟨_, rfl, (rF_b (r := 6770) (by decide) rfl).mpr q0⟩ (fun f h => by cases h))⟩, [], List.mem_cons_self, fun f h => (by cases h)⟩
theorem rw_rwTNk0 {K : Nat → Nat} {n : Nat} {JX : (Nat → jcell) → Prop} : aGho (rF K n) fa_T K n JX ag_rwTNk0 := by
  refine aGho_of ⟨rfl, rfl⟩ ?_
  intro p σ ρ hH hX hA hM0
  have hG := aAG_of hA.1 (fun i e v he hv => (hA.2 i e v he hv).1)
  clear hA
  obtain ⟨v0, v1, v2, v3, v4, v5, v6, rfl, g0, g1, g2, g3, g4, g5, g6⟩ := rA_7 hG
  clear hG
  obtain ⟨x0, rfl, b0, d0⟩ := rG_ref (by decide) g0
  obtain ⟨x1, rfl, b1, d1⟩ := aG_int g1
  dsimp only at b1 d1
  obtain ⟨x2, rfl, b2, d2⟩ := aG_int g2
  dsimp only at b2 d2
  obtain ⟨x3, rfl, b3, d3⟩ := aG_int g3
  dsimp only at b3 d3
  obtain ⟨x4, rfl, b4, d4⟩ := aG_int g4
  dsimp only at b4 d4
  obtain ⟨x5, rfl, b5, d5⟩ := aG_int g5
  dsimp only at b5 d5
  obtain ⟨x6, rfl, b6, d6⟩ := aG_int g6
  dsimp only at b6 d6
  obtain ⟨m1, m2, m3, m4⟩ := hM0
  obtain ⟨T, hT⟩ := rTe_ex hH b0 d0
  have f0 : rB K n p 160 [rI x1, rI x2, rI x3, rI x4] σ := by
    obtain ⟨w, e6, e7⟩ := m4 (2564, [1, 2, 3, 4]) (List.mem_of_getElem? (i := 0) rfl)
    obtain rfl : [rI x1, rI x2, rI x3, rI x4] = w := Option.some.inj (show some [rI x1, rI x2, rI x3, rI x4] = some w from e6)
    exact (rF_b (r := 2564) (by decide) rfl).mp e7
  have f0 := ro_160.mp f0
  have f1 : rB K n p 412 [rI x1, rI x5] σ := by
    obtain ⟨w, e6, e7⟩ := m4 (6594, [1, 5]) (List.mem_of_getElem? (i := 1) rfl)
    obtain rfl : [rI x1, rI x5] = w := Option.some.inj (show some [rI x1, rI x5] = some w from e6)
    exact (rF_b (r := 6594) (by decide) rfl).mp e7
  have f1 := ro_412.mp f1
  have f2 : rB K n p 147 [rI x5, rI x6] σ := by
    obtain ⟨w, e6, e7⟩ := m4 (2354, [5, 6]) (List.mem_of_getElem? (i := 2) rfl)
    obtain rfl : [rI x5, rI x6] = w := Option.some.inj (show some [rI x5, rI x6] = some w from e6)
    exact (rF_b (r := 2354) (by decide) rfl).mp e7
  have f2 := ro_147.mp f2
  clear m1 m2 m3 m4
  have q0 : rB K n p 424 [rI x1] σ := ro_424.mpr (by
    unfold rVc
    rw [← f1]
    omega)
  exact ⟨p, fun _ => rfl, ⟨(fun q h => by cases h), fun q h => (by cases h), (fun f h => by cases h), (aAllc ⟨_, rfl, (rF_b (r := 6785) (by decide) rfl).mpr q0⟩ (fun f h => by cases h))⟩, [], List.mem_cons_self, fun f h => (by cases h)⟩
theorem rw_rwTNk1 {K : Nat → Nat} {n : Nat} {JX : (Nat → jcell) → Prop} : aGho (rF K n) fa_T K n JX ag_rwTNk1 := by
  refine aGho_of ⟨rfl, rfl⟩ ?_
  intro p σ ρ hH hX hA hM0
  have hG := aAG_of hA.1 (fun i e v he hv => (hA.2 i e v he hv).1)
  clear hA
  obtain ⟨v0, v1, v2, v3, v4, v5, v6, rfl, g0, g1, g2, g3, g4, g5, g6⟩ := rA_7 hG
  clear hG
  obtain ⟨x0, rfl, b0, d0⟩ := rG_ref (by decide) g0
  obtain ⟨x1, rfl, b1, d1⟩ := aG_int g1
  dsimp only at b1 d1
  obtain ⟨x2, rfl, b2, d2⟩ := aG_int g2
  dsimp only at b2 d2
  obtain ⟨x3, rfl, b3, d3⟩ := aG_int g3
  dsimp only at b3 d3
  obtain ⟨x4, rfl, b4, d4⟩ := aG_int g4
  dsimp only at b4 d4
  obtain ⟨x5, rfl, b5, d5⟩ := aG_int g5
  dsimp only at b5 d5
  obtain ⟨x6, rfl, b6, d6⟩ := aG_int g6
  dsimp only at b6 d6
  obtain ⟨m1, m2, m3, m4⟩ := hM0
  obtain ⟨T, hT⟩ := rTe_ex hH b0 d0
  have f0 : rB K n p 160 [rI x1, rI x2, rI x3, rI x4] σ := by
    obtain ⟨w, e6, e7⟩ := m4 (2564, [1, 2, 3, 4]) (List.mem_of_getElem? (i := 0) rfl)
    obtain rfl : [rI x1, rI x2, rI x3, rI x4] = w := Option.some.inj (show some [rI x1, rI x2, rI x3, rI x4] = some w from e6)
    exact (rF_b (r := 2564) (by decide) rfl).mp e7
  have f0 := ro_160.mp f0
  have f1 : rB K n p 412 [rI x1, rI x5] σ := by
    obtain ⟨w, e6, e7⟩ := m4 (6594, [1, 5]) (List.mem_of_getElem? (i := 1) rfl)
    obtain rfl : [rI x1, rI x5] = w := Option.some.inj (show some [rI x1, rI x5] = some w from e6)
    exact (rF_b (r := 6594) (by decide) rfl).mp e7
  have f1 := ro_412.mp f1
  have f2 : rB K n p 147 [rI x5, rI x6] σ := by
    obtain ⟨w, e6, e7⟩ := m4 (2354, [5, 6]) (List.mem_of_getElem? (i := 2) rfl)
    obtain rfl : [rI x5, rI x6] = w := Option.some.inj (show some [rI x5, rI x6] = some w from e6)
    exact (rF_b (r := 2354) (by decide) rfl).mp e7
  have f2 := ro_147.mp f2
  clear m1 m2 m3 m4
  have q0 : rB K n p 424 [rI x1] σ := ro_424.mpr (by
    unfold rVc
    rw [← f1]
    omega)
  exact ⟨p, fun _ => rfl, ⟨(fun q h => by cases h), fun q h => (by cases h), (fun f h => by cases h), (aAllc ⟨_, rfl, (rF_b (r := 6785) (by decide) rfl).mpr q0⟩ (fun f h => by cases h))⟩, [], List.mem_cons_self, fun f h => (by cases h)⟩
theorem rw_rwTNf0 {K : Nat → Nat} {n : Nat} {JX : (Nat → jcell) → Prop} : aGho (rF K n) fa_T K n JX ag_rwTNf0 := by
  refine aGho_of ⟨rfl, rfl⟩ ?_
  intro p σ ρ hH hX hA hM0
  have hG := aAG_of hA.1 (fun i e v he hv => (hA.2 i e v he hv).1)
  clear hA
  obtain ⟨v0, v1, v2, v3, v4, v5, rfl, g0, g1, g2, g3, g4, g5⟩ := rA_6 hG
  clear hG
  obtain ⟨x0, rfl, b0, d0⟩ := rG_ref (by decide) g0
  obtain ⟨x1, rfl, b1, d1⟩ := aG_int g1
  dsimp only at b1 d1
  obtain ⟨x2, rfl, b2, d2⟩ := aG_int g2
  dsimp only at b2 d2
  obtain ⟨x3, rfl, b3, d3⟩ := aG_int g3
  dsimp only at b3 d3
  obtain ⟨x4, rfl, b4, d4⟩ := aG_int g4
  dsimp only at b4 d4
  obtain ⟨x5, rfl, b5, d5⟩ := aG_int g5
  dsimp only at b5 d5
  obtain ⟨m1, m2, m3, m4⟩ := hM0
  obtain ⟨T, hT⟩ := rTe_ex hH b0 d0
  have f0 : rB K n p 160 [rI x1, rI x2, rI x3, rI x4] σ := by
    obtain ⟨w, e6, e7⟩ := m4 (2564, [1, 2, 3, 4]) (List.mem_of_getElem? (i := 0) rfl)
    obtain rfl : [rI x1, rI x2, rI x3, rI x4] = w := Option.some.inj (show some [rI x1, rI x2, rI x3, rI x4] = some w from e6)
    exact (rF_b (r := 2564) (by decide) rfl).mp e7
  have f0 := ro_160.mp f0
  have f1 : rB K n p 218 [rI x2, rI x5] σ := by
    obtain ⟨w, e6, e7⟩ := m4 (3490, [2, 5]) (List.mem_of_getElem? (i := 1) rfl)
    obtain rfl : [rI x2, rI x5] = w := Option.some.inj (show some [rI x2, rI x5] = some w from e6)
    exact (rF_b (r := 3490) (by decide) rfl).mp e7
  have f1 := ro_218.mp f1
  clear m1 m2 m3 m4
  have q0 : rB K n p 424 [rI x1] σ := ro_424.mpr (by
    unfold rVc
    rw [← f0.1]
    omega)
  exact ⟨p, fun _ => rfl, ⟨(fun q h => by cases h), fun q h => (by cases h), (fun f h => by cases h), (aAllc ⟨_, rfl, (rF_b (r := 6785) (by decide) rfl).mpr q0⟩ (fun f h => by cases h))⟩, [], List.mem_cons_self, fun f h => (by cases h)⟩
theorem rw_rwTNf1 {K : Nat → Nat} {n : Nat} {JX : (Nat → jcell) → Prop} : aGho (rF K n) fa_T K n JX ag_rwTNf1 := by
  refine aGho_of ⟨rfl, rfl⟩ ?_
  intro p σ ρ hH hX hA hM0
  have hG := aAG_of hA.1 (fun i e v he hv => (hA.2 i e v he hv).1)
  clear hA
  obtain ⟨v0, v1, v2, v3, v4, v5, rfl, g0, g1, g2, g3, g4, g5⟩ := rA_6 hG
  clear hG
  obtain ⟨x0, rfl, b0, d0⟩ := rG_ref (by decide) g0
  obtain ⟨x1, rfl, b1, d1⟩ := aG_int g1
  dsimp only at b1 d1
  obtain ⟨x2, rfl, b2, d2⟩ := aG_int g2
  dsimp only at b2 d2
  obtain ⟨x3, rfl, b3, d3⟩ := aG_int g3
  dsimp only at b3 d3
  obtain ⟨x4, rfl, b4, d4⟩ := aG_int g4
  dsimp only at b4 d4
  obtain ⟨x5, rfl, b5, d5⟩ := aG_int g5
  dsimp only at b5 d5
  obtain ⟨m1, m2, m3, m4⟩ := hM0
  obtain ⟨T, hT⟩ := rTe_ex hH b0 d0
  have f0 : rB K n p 160 [rI x1, rI x2, rI x3, rI x4] σ := by
    obtain ⟨w, e6, e7⟩ := m4 (2564, [1, 2, 3, 4]) (List.mem_of_getElem? (i := 0) rfl)
    obtain rfl : [rI x1, rI x2, rI x3, rI x4] = w := Option.some.inj (show some [rI x1, rI x2, rI x3, rI x4] = some w from e6)
    exact (rF_b (r := 2564) (by decide) rfl).mp e7
  have f0 := ro_160.mp f0
  have f1 : rB K n p 218 [rI x2, rI x5] σ := by
    obtain ⟨w, e6, e7⟩ := m4 (3490, [2, 5]) (List.mem_of_getElem? (i := 1) rfl)
    obtain rfl : [rI x2, rI x5] = w := Option.some.inj (show some [rI x2, rI x5] = some w from e6)
    exact (rF_b (r := 3490) (by decide) rfl).mp e7
  have f1 := ro_218.mp f1
  clear m1 m2 m3 m4
  have q0 : rB K n p 424 [rI x1] σ := ro_424.mpr (by
    unfold rVc
    rw [← f0.1]
    omega)
  exact ⟨p, fun _ => rfl, ⟨(fun q h => by cases h), fun q h => (by cases h), (fun f h => by cases h), (aAllc ⟨_, rfl, (rF_b (r := 6785) (by decide) rfl).mpr q0⟩ (fun f h => by cases h))⟩, [], List.mem_cons_self, fun f h => (by cases h)⟩
theorem rw_rwK1u {K : Nat → Nat} {n : Nat} {JX : (Nat → jcell) → Prop} : aGho (rF K n) fa_T K n JX ag_rwK1u := by
  refine aGho_of ⟨rfl, rfl⟩ ?_
  intro p σ ρ hH hX hA hM0
  have hG := aAG_of hA.1 (fun i e v he hv => (hA.2 i e v he hv).1)
  clear hA
  obtain ⟨v0, v1, v2, v3, v4, v5, v6, v7, v8, v9, rfl, g0, g1, g2, g3, g4, g5, g6, g7, g8, g9⟩ := rA_10 hG
  clear hG
  obtain ⟨x0, rfl, b0, d0⟩ := rG_ref (by decide) g0
  obtain ⟨x1, rfl, b1, d1⟩ := rG_ref (by decide) g1
  obtain ⟨x2, rfl, b2, d2⟩ := aG_int g2
  dsimp only at b2 d2
  obtain ⟨x3, rfl, b3, d3⟩ := aG_int g3
  dsimp only at b3 d3
  obtain ⟨x4, rfl, b4, d4⟩ := aG_int g4
  dsimp only at b4 d4
  obtain ⟨x5, rfl, b5, d5⟩ := aG_int g5
  dsimp only at b5 d5
  obtain ⟨x6, rfl, b6, d6⟩ := aG_int g6
  dsimp only at b6 d6
  obtain ⟨x7, rfl, b7, d7⟩ := aG_int g7
  dsimp only at b7 d7
  obtain ⟨x8, rfl, b8, d8⟩ := aG_int g8
  dsimp only at b8 d8
  obtain ⟨x9, rfl, b9, d9⟩ := aG_int g9
  dsimp only at b9 d9
  obtain ⟨m1, m2, m3, m4⟩ := hM0
  obtain ⟨T, hT⟩ := rTe_ex hH b0 d0
  obtain ⟨a0, c0, fs0, w0, e1, s0, t0, e4⟩ := m1 (0, 24, 1) (List.mem_of_getElem? (i := 0) rfl)
  obtain rfl : x0 = a0 := Sum.inl.inj (Option.some.inj (Sum.inr.inj (Sum.inr.inj (Option.some.inj (show some (rR x0) = some _ from e1)))))
  obtain rfl : rR x1 = w0 := Option.some.inj (show some (rR x1) = some w0 from e4)
  clear e1 e4
  obtain ⟨a, mc0, ty0, gc0, ic0, e1, sc0, jc0, e4, e5⟩ := m2 (1, ([(7, 1)], 0), 8) (List.mem_of_getElem? (i := 0) rfl)
  obtain rfl : x1 = a := Sum.inl.inj (Option.some.inj (Sum.inr.inj (Sum.inr.inj (Option.some.inj (show some (rR x1) = some _ from e1)))))
  obtain ⟨gc0, rfl⟩ : ∃ g, gc0 = .inl g := by
    rcases gc0 with g | g
    · exact ⟨g, rfl⟩
    · exact absurd (show some (rI x8) = some (.inr (.inl (g ic0))) from e5) (fun h => by cases h)
  have sc0 : σ x1 = .inl (ty0, mc0, .inl gc0) := sc0
  have ec0 : x8 = gc0 ic0 := Sum.inl.inj (Option.some.inj (show some (rI x8) = some _ from e5))
  have kc0 : (ic0 : Int) = (1 * x7.toInt + 0) + 0 := by
    obtain ⟨z, e6, e7⟩ := e4
    obtain rfl : (1 * x7.toInt + 0) = z := Option.some.inj (show some (1 * x7.toInt + 0) = some z from e6)
    exact e7
  clear e1 e4 e5
  have l0 : 0 ≤ (1 * x3.toInt + (1 * x4.toInt + (-2 * x6.toInt + 0))) + 0 := by
    obtain ⟨z, e6, e7⟩ := m3 ([(3, 1), (4, 1), (6, -2)], 0) (List.mem_of_getElem? (i := 0) rfl)
    obtain rfl : (1 * x3.toInt + (1 * x4.toInt + (-2 * x6.toInt + 0))) = z := Option.some.inj (show some (1 * x3.toInt + (1 * x4.toInt + (-2 * x6.toInt + 0))) = some z from e6)
    exact e7
  have l1 : 0 ≤ (-1 * x3.toInt + (-1 * x4.toInt + (2 * x6.toInt + 0))) + 1 := by
    obtain ⟨z, e6, e7⟩ := m3 ([(3, -1), (4, -1), (6, 2)], 1) (List.mem_of_getElem? (i := 1) rfl)
    obtain rfl : (-1 * x3.toInt + (-1 * x4.toInt + (2 * x6.toInt + 0))) = z := Option.some.inj (show some (-1 * x3.toInt + (-1 * x4.toInt + (2 * x6.toInt + 0))) = some z from e6)
    exact e7
  have l2 : 0 ≤ (1 * x7.toInt + (-1 * x3.toInt + 0)) + -3 := by
    obtain ⟨z, e6, e7⟩ := m3 ([(7, 1), (3, -1)], -3) (List.mem_of_getElem? (i := 2) rfl)
    obtain rfl : (1 * x7.toInt + (-1 * x3.toInt + 0)) = z := Option.some.inj (show some (1 * x7.toInt + (-1 * x3.toInt + 0)) = some z from e6)
    exact e7
  have l3 : 0 ≤ (-1 * x7.toInt + (1 * x3.toInt + 0)) + 3 := by
    obtain ⟨z, e6, e7⟩ := m3 ([(7, -1), (3, 1)], 3) (List.mem_of_getElem? (i := 3) rfl)
    obtain rfl : (-1 * x7.toInt + (1 * x3.toInt + 0)) = z := Option.some.inj (show some (-1 * x7.toInt + (1 * x3.toInt + 0)) = some z from e6)
    exact e7
  have y0 : T x7.toInt = x8.toInt := rMg_c hT s0 t0 sc0 (by omega) (by omega) (by omega) ec0
  have f0 : rB K n p 406 [rR x0, rI x2] σ := by
    obtain ⟨w, e6, e7⟩ := m4 (6498, [0, 2]) (List.mem_of_getElem? (i := 0) rfl)
    obtain rfl : [rR x0, rI x2] = w := Option.some.inj (show some [rR x0, rI x2] = some w from e6)
    exact (rF_b (r := 6498) (by decide) rfl).mp e7
  obtain ⟨M9, h9, f0⟩ := ro_406.mp f0
  obtain rfl := rMg_u hT h9
  clear h9
  have f1 : rB K n p 160 [rI x2, rI x3, rI x4, rI x5] σ := by
    obtain ⟨w, e6, e7⟩ := m4 (2564, [2, 3, 4, 5]) (List.mem_of_getElem? (i := 1) rfl)
    obtain rfl : [rI x2, rI x3, rI x4, rI x5] = w := Option.some.inj (show some [rI x2, rI x3, rI x4, rI x5] = some w from e6)
    exact (rF_b (r := 2564) (by decide) rfl).mp e7
  have f1 := ro_160.mp f1
  have f2 : rB K n p 423 [rI x2, rI x9] σ := by
    obtain ⟨w, e6, e7⟩ := m4 (6770, [2, 9]) (List.mem_of_getElem? (i := 2) rfl)
    obtain rfl : [rI x2, rI x9] = w := Option.some.inj (show some [rI x2, rI x9] = some w from e6)
    exact (rF_b (r := 6770) (by decide) rfl).mp e7
  have f2 := ro_423.mp f2
  clear m1 m2 m3 m4
  have q0 : rB K n p 410 [rR x0, rI x2] (jup σ x1 (jsto (σ x1) x6.toNatClampNeg x8)) := ro_410.mpr ⟨_, rMg_up hT s0 t0 b6 d6, by
    have hc := f2.2.2.1
    have e : rCv x2.toInt = x7.toInt := by
      unfold rCv
      rw [if_pos (by omega), ← f1.1]
      omega
    refine ⟨f0.1, ?_⟩
    unfold rV1d
    rw [← f0.2, e, ← f1.1, ← f1.2.1, show rOv x3.toInt x4.toInt = x6.toInt by unfold rOv; omega, y0]⟩
  exact ⟨p, fun _ => rfl, ⟨(fun q h => by cases h), fun q h => (by cases h), (fun f h => by cases h), (aAllc ⟨_, rfl, rF_p (r := 6562) (by decide) (by decide) q0⟩ (fun f h => by cases h))⟩, [], List.mem_cons_self, fun f h => (by cases h)⟩
theorem rw_rwK2u {K : Nat → Nat} {n : Nat} {JX : (Nat → jcell) → Prop} : aGho (rF K n) fa_T K n JX ag_rwK2u := by
  refine aGho_of ⟨rfl, rfl⟩ ?_
  intro p σ ρ hH hX hA hM0
  have hG := aAG_of hA.1 (fun i e v he hv => (hA.2 i e v he hv).1)
  clear hA
  obtain ⟨v0, v1, v2, v3, v4, v5, v6, v7, v8, rfl, g0, g1, g2, g3, g4, g5, g6, g7, g8⟩ := rA_9 hG
  clear hG
  obtain ⟨x0, rfl, b0, d0⟩ := rG_ref (by decide) g0
  obtain ⟨x1, rfl, b1, d1⟩ := rG_ref (by decide) g1
  obtain ⟨x2, rfl, b2, d2⟩ := aG_int g2
  dsimp only at b2 d2
  obtain ⟨x3, rfl, b3, d3⟩ := aG_int g3
  dsimp only at b3 d3
  obtain ⟨x4, rfl, b4, d4⟩ := aG_int g4
  dsimp only at b4 d4
  obtain ⟨x5, rfl, b5, d5⟩ := aG_int g5
  dsimp only at b5 d5
  obtain ⟨x6, rfl, b6, d6⟩ := aG_int g6
  dsimp only at b6 d6
  obtain ⟨x7, rfl, b7, d7⟩ := aG_int g7
  dsimp only at b7 d7
  obtain ⟨x8, rfl, b8, d8⟩ := aG_int g8
  dsimp only at b8 d8
  obtain ⟨m1, m2, m3, m4⟩ := hM0
  obtain ⟨T, hT⟩ := rTe_ex hH b0 d0
  obtain ⟨a0, c0, fs0, w0, e1, s0, t0, e4⟩ := m1 (0, 24, 1) (List.mem_of_getElem? (i := 0) rfl)
  obtain rfl : x0 = a0 := Sum.inl.inj (Option.some.inj (Sum.inr.inj (Sum.inr.inj (Option.some.inj (show some (rR x0) = some _ from e1)))))
  obtain rfl : rR x1 = w0 := Option.some.inj (show some (rR x1) = some w0 from e4)
  clear e1 e4
  have l0 : 0 ≤ (1 * x6.toInt + (-1 * x3.toInt + 0)) + -3 := by
    obtain ⟨z, e6, e7⟩ := m3 ([(6, 1), (3, -1)], -3) (List.mem_of_getElem? (i := 0) rfl)
    obtain rfl : (1 * x6.toInt + (-1 * x3.toInt + 0)) = z := Option.some.inj (show some (1 * x6.toInt + (-1 * x3.toInt + 0)) = some z from e6)
    exact e7
  have l1 : 0 ≤ (-1 * x6.toInt + (1 * x3.toInt + 0)) + 3 := by
    obtain ⟨z, e6, e7⟩ := m3 ([(6, -1), (3, 1)], 3) (List.mem_of_getElem? (i := 1) rfl)
    obtain rfl : (-1 * x6.toInt + (1 * x3.toInt + 0)) = z := Option.some.inj (show some (-1 * x6.toInt + (1 * x3.toInt + 0)) = some z from e6)
    exact e7
  have f0 : rB K n p 410 [rR x0, rI x2] σ := by
    obtain ⟨w, e6, e7⟩ := m4 (6562, [0, 2]) (List.mem_of_getElem? (i := 0) rfl)
    obtain rfl : [rR x0, rI x2] = w := Option.some.inj (show some [rR x0, rI x2] = some w from e6)
    exact (rF_b (r := 6562) (by decide) rfl).mp e7
  obtain ⟨M9, h9, f0⟩ := ro_410.mp f0
  obtain rfl := rMg_u hT h9
  clear h9
  have f1 : rB K n p 160 [rI x2, rI x3, rI x4, rI x5] σ := by
    obtain ⟨w, e6, e7⟩ := m4 (2564, [2, 3, 4, 5]) (List.mem_of_getElem? (i := 1) rfl)
    obtain rfl : [rI x2, rI x3, rI x4, rI x5] = w := Option.some.inj (show some [rI x2, rI x3, rI x4, rI x5] = some w from e6)
    exact (rF_b (r := 2564) (by decide) rfl).mp e7
  have f1 := ro_160.mp f1
  have f2 : rB K n p 423 [rI x2, rI x7] σ := by
    obtain ⟨w, e6, e7⟩ := m4 (6770, [2, 7]) (List.mem_of_getElem? (i := 2) rfl)
    obtain rfl : [rI x2, rI x7] = w := Option.some.inj (show some [rI x2, rI x7] = some w from e6)
    exact (rF_b (r := 6770) (by decide) rfl).mp e7
  have f2 := ro_423.mp f2
  clear m1 m2 m3 m4
  have q0 : rB K n p 407 [rR x0, rI x2] (jup σ x1 (jsto (σ x1) x6.toNatClampNeg x8)) := ro_407.mpr ⟨_, rMg_up hT s0 t0 b6 d6, by
    have hc := f2.2.2.1
    have e : rCv x2.toInt = x6.toInt := by
      unfold rCv
      rw [if_pos (by omega), ← f1.1]
      omega
    have hv : rVc p.1 x2.toInt := ⟨f2.1, f2.2.1, by omega⟩
    refine ⟨f0.1, ?_⟩
    rw [rV1_y hv, ← f0.2, e, show x8.toInt = 0 by omega]⟩
  exact ⟨p, fun _ => rfl, ⟨(fun q h => by cases h), fun q h => (by cases h), (fun f h => by cases h), (aAllc ⟨_, rfl, rF_p (r := 6514) (by decide) (by decide) q0⟩ (fun f h => by cases h))⟩, [], List.mem_cons_self, fun f h => (by cases h)⟩
theorem rw_rwK1d {K : Nat → Nat} {n : Nat} {JX : (Nat → jcell) → Prop} : aGho (rF K n) fa_T K n JX ag_rwK1d := by
  refine aGho_of ⟨rfl, rfl⟩ ?_
  intro p σ ρ hH hX hA hM0
  have hG := aAG_of hA.1 (fun i e v he hv => (hA.2 i e v he hv).1)
  clear hA
  obtain ⟨v0, v1, v2, v3, v4, v5, v6, v7, v8, v9, rfl, g0, g1, g2, g3, g4, g5, g6, g7, g8, g9⟩ := rA_10 hG
  clear hG
  obtain ⟨x0, rfl, b0, d0⟩ := rG_ref (by decide) g0
  obtain ⟨x1, rfl, b1, d1⟩ := rG_ref (by decide) g1
  obtain ⟨x2, rfl, b2, d2⟩ := aG_int g2
  dsimp only at b2 d2
  obtain ⟨x3, rfl, b3, d3⟩ := aG_int g3
  dsimp only at b3 d3
  obtain ⟨x4, rfl, b4, d4⟩ := aG_int g4
  dsimp only at b4 d4
  obtain ⟨x5, rfl, b5, d5⟩ := aG_int g5
  dsimp only at b5 d5
  obtain ⟨x6, rfl, b6, d6⟩ := aG_int g6
  dsimp only at b6 d6
  obtain ⟨x7, rfl, b7, d7⟩ := aG_int g7
  dsimp only at b7 d7
  obtain ⟨x8, rfl, b8, d8⟩ := aG_int g8
  dsimp only at b8 d8
  obtain ⟨x9, rfl, b9, d9⟩ := aG_int g9
  dsimp only at b9 d9
  obtain ⟨m1, m2, m3, m4⟩ := hM0
  obtain ⟨T, hT⟩ := rTe_ex hH b0 d0
  obtain ⟨a0, c0, fs0, w0, e1, s0, t0, e4⟩ := m1 (0, 24, 1) (List.mem_of_getElem? (i := 0) rfl)
  obtain rfl : x0 = a0 := Sum.inl.inj (Option.some.inj (Sum.inr.inj (Sum.inr.inj (Option.some.inj (show some (rR x0) = some _ from e1)))))
  obtain rfl : rR x1 = w0 := Option.some.inj (show some (rR x1) = some w0 from e4)
  clear e1 e4
  obtain ⟨a, mc0, ty0, gc0, ic0, e1, sc0, jc0, e4, e5⟩ := m2 (1, ([(7, 1)], 0), 8) (List.mem_of_getElem? (i := 0) rfl)
  obtain rfl : x1 = a := Sum.inl.inj (Option.some.inj (Sum.inr.inj (Sum.inr.inj (Option.some.inj (show some (rR x1) = some _ from e1)))))
  obtain ⟨gc0, rfl⟩ : ∃ g, gc0 = .inl g := by
    rcases gc0 with g | g
    · exact ⟨g, rfl⟩
    · exact absurd (show some (rI x8) = some (.inr (.inl (g ic0))) from e5) (fun h => by cases h)
  have sc0 : σ x1 = .inl (ty0, mc0, .inl gc0) := sc0
  have ec0 : x8 = gc0 ic0 := Sum.inl.inj (Option.some.inj (show some (rI x8) = some _ from e5))
  have kc0 : (ic0 : Int) = (1 * x7.toInt + 0) + 0 := by
    obtain ⟨z, e6, e7⟩ := e4
    obtain rfl : (1 * x7.toInt + 0) = z := Option.some.inj (show some (1 * x7.toInt + 0) = some z from e6)
    exact e7
  clear e1 e4 e5
  have l0 : 0 ≤ (1 * x3.toInt + (1 * x4.toInt + (-2 * x6.toInt + 0))) + 0 := by
    obtain ⟨z, e6, e7⟩ := m3 ([(3, 1), (4, 1), (6, -2)], 0) (List.mem_of_getElem? (i := 0) rfl)
    obtain rfl : (1 * x3.toInt + (1 * x4.toInt + (-2 * x6.toInt + 0))) = z := Option.some.inj (show some (1 * x3.toInt + (1 * x4.toInt + (-2 * x6.toInt + 0))) = some z from e6)
    exact e7
  have l1 : 0 ≤ (-1 * x3.toInt + (-1 * x4.toInt + (2 * x6.toInt + 0))) + 1 := by
    obtain ⟨z, e6, e7⟩ := m3 ([(3, -1), (4, -1), (6, 2)], 1) (List.mem_of_getElem? (i := 1) rfl)
    obtain rfl : (-1 * x3.toInt + (-1 * x4.toInt + (2 * x6.toInt + 0))) = z := Option.some.inj (show some (-1 * x3.toInt + (-1 * x4.toInt + (2 * x6.toInt + 0))) = some z from e6)
    exact e7
  have l2 : 0 ≤ (1 * x7.toInt + (-1 * x3.toInt + 0)) + 4 := by
    obtain ⟨z, e6, e7⟩ := m3 ([(7, 1), (3, -1)], 4) (List.mem_of_getElem? (i := 2) rfl)
    obtain rfl : (1 * x7.toInt + (-1 * x3.toInt + 0)) = z := Option.some.inj (show some (1 * x7.toInt + (-1 * x3.toInt + 0)) = some z from e6)
    exact e7
  have l3 : 0 ≤ (-1 * x7.toInt + (1 * x3.toInt + 0)) + -4 := by
    obtain ⟨z, e6, e7⟩ := m3 ([(7, -1), (3, 1)], -4) (List.mem_of_getElem? (i := 3) rfl)
    obtain rfl : (-1 * x7.toInt + (1 * x3.toInt + 0)) = z := Option.some.inj (show some (-1 * x7.toInt + (1 * x3.toInt + 0)) = some z from e6)
    exact e7
  have y0 : T x7.toInt = x8.toInt := rMg_c hT s0 t0 sc0 (by omega) (by omega) (by omega) ec0
  have f0 : rB K n p 406 [rR x0, rI x2] σ := by
    obtain ⟨w, e6, e7⟩ := m4 (6498, [0, 2]) (List.mem_of_getElem? (i := 0) rfl)
    obtain rfl : [rR x0, rI x2] = w := Option.some.inj (show some [rR x0, rI x2] = some w from e6)
    exact (rF_b (r := 6498) (by decide) rfl).mp e7
  obtain ⟨M9, h9, f0⟩ := ro_406.mp f0
  obtain rfl := rMg_u hT h9
  clear h9
  have f1 : rB K n p 160 [rI x2, rI x3, rI x4, rI x5] σ := by
    obtain ⟨w, e6, e7⟩ := m4 (2564, [2, 3, 4, 5]) (List.mem_of_getElem? (i := 1) rfl)
    obtain rfl : [rI x2, rI x3, rI x4, rI x5] = w := Option.some.inj (show some [rI x2, rI x3, rI x4, rI x5] = some w from e6)
    exact (rF_b (r := 2564) (by decide) rfl).mp e7
  have f1 := ro_160.mp f1
  have f2 : rB K n p 423 [rI x2, rI x9] σ := by
    obtain ⟨w, e6, e7⟩ := m4 (6770, [2, 9]) (List.mem_of_getElem? (i := 2) rfl)
    obtain rfl : [rI x2, rI x9] = w := Option.some.inj (show some [rI x2, rI x9] = some w from e6)
    exact (rF_b (r := 6770) (by decide) rfl).mp e7
  have f2 := ro_423.mp f2
  clear m1 m2 m3 m4
  have q0 : rB K n p 410 [rR x0, rI x2] (jup σ x1 (jsto (σ x1) x6.toNatClampNeg x8)) := ro_410.mpr ⟨_, rMg_up hT s0 t0 b6 d6, by
    have hc := f2.2.2.1
    have e : rCv x2.toInt = x7.toInt := by
      unfold rCv
      rw [if_neg (by omega), ← f1.1]
      omega
    refine ⟨f0.1, ?_⟩
    unfold rV1d
    rw [← f0.2, e, ← f1.1, ← f1.2.1, show rOv x3.toInt x4.toInt = x6.toInt by unfold rOv; omega, y0]⟩
  exact ⟨p, fun _ => rfl, ⟨(fun q h => by cases h), fun q h => (by cases h), (fun f h => by cases h), (aAllc ⟨_, rfl, rF_p (r := 6562) (by decide) (by decide) q0⟩ (fun f h => by cases h))⟩, [], List.mem_cons_self, fun f h => (by cases h)⟩
theorem rw_rwK2d {K : Nat → Nat} {n : Nat} {JX : (Nat → jcell) → Prop} : aGho (rF K n) fa_T K n JX ag_rwK2d := by
  refine aGho_of ⟨rfl, rfl⟩ ?_
  intro p σ ρ hH hX hA hM0
  have hG := aAG_of hA.1 (fun i e v he hv => (hA.2 i e v he hv).1)
  clear hA
  obtain ⟨v0, v1, v2, v3, v4, v5, v6, v7, v8, rfl, g0, g1, g2, g3, g4, g5, g6, g7, g8⟩ := rA_9 hG
  clear hG
  obtain ⟨x0, rfl, b0, d0⟩ := rG_ref (by decide) g0
  obtain ⟨x1, rfl, b1, d1⟩ := rG_ref (by decide) g1
  obtain ⟨x2, rfl, b2, d2⟩ := aG_int g2
  dsimp only at b2 d2
  obtain ⟨x3, rfl, b3, d3⟩ := aG_int g3
  dsimp only at b3 d3
  obtain ⟨x4, rfl, b4, d4⟩ := aG_int g4
  dsimp only at b4 d4
  obtain ⟨x5, rfl, b5, d5⟩ := aG_int g5
  dsimp only at b5 d5
  obtain ⟨x6, rfl, b6, d6⟩ := aG_int g6
  dsimp only at b6 d6
  obtain ⟨x7, rfl, b7, d7⟩ := aG_int g7
  dsimp only at b7 d7
  obtain ⟨x8, rfl, b8, d8⟩ := aG_int g8
  dsimp only at b8 d8
  obtain ⟨m1, m2, m3, m4⟩ := hM0
  obtain ⟨T, hT⟩ := rTe_ex hH b0 d0
  obtain ⟨a0, c0, fs0, w0, e1, s0, t0, e4⟩ := m1 (0, 24, 1) (List.mem_of_getElem? (i := 0) rfl)
  obtain rfl : x0 = a0 := Sum.inl.inj (Option.some.inj (Sum.inr.inj (Sum.inr.inj (Option.some.inj (show some (rR x0) = some _ from e1)))))
  obtain rfl : rR x1 = w0 := Option.some.inj (show some (rR x1) = some w0 from e4)
  clear e1 e4
  have l0 : 0 ≤ (1 * x6.toInt + (-1 * x3.toInt + 0)) + 4 := by
    obtain ⟨z, e6, e7⟩ := m3 ([(6, 1), (3, -1)], 4) (List.mem_of_getElem? (i := 0) rfl)
    obtain rfl : (1 * x6.toInt + (-1 * x3.toInt + 0)) = z := Option.some.inj (show some (1 * x6.toInt + (-1 * x3.toInt + 0)) = some z from e6)
    exact e7
  have l1 : 0 ≤ (-1 * x6.toInt + (1 * x3.toInt + 0)) + -4 := by
    obtain ⟨z, e6, e7⟩ := m3 ([(6, -1), (3, 1)], -4) (List.mem_of_getElem? (i := 1) rfl)
    obtain rfl : (-1 * x6.toInt + (1 * x3.toInt + 0)) = z := Option.some.inj (show some (-1 * x6.toInt + (1 * x3.toInt + 0)) = some z from e6)
    exact e7
  have f0 : rB K n p 410 [rR x0, rI x2] σ := by
    obtain ⟨w, e6, e7⟩ := m4 (6562, [0, 2]) (List.mem_of_getElem? (i := 0) rfl)
    obtain rfl : [rR x0, rI x2] = w := Option.some.inj (show some [rR x0, rI x2] = some w from e6)
    exact (rF_b (r := 6562) (by decide) rfl).mp e7
  obtain ⟨M9, h9, f0⟩ := ro_410.mp f0
  obtain rfl := rMg_u hT h9
  clear h9
  have f1 : rB K n p 160 [rI x2, rI x3, rI x4, rI x5] σ := by
    obtain ⟨w, e6, e7⟩ := m4 (2564, [2, 3, 4, 5]) (List.mem_of_getElem? (i := 1) rfl)
    obtain rfl : [rI x2, rI x3, rI x4, rI x5] = w := Option.some.inj (show some [rI x2, rI x3, rI x4, rI x5] = some w from e6)
    exact (rF_b (r := 2564) (by decide) rfl).mp e7
  have f1 := ro_160.mp f1
  have f2 : rB K n p 423 [rI x2, rI x7] σ := by
    obtain ⟨w, e6, e7⟩ := m4 (6770, [2, 7]) (List.mem_of_getElem? (i := 2) rfl)
    obtain rfl : [rI x2, rI x7] = w := Option.some.inj (show some [rI x2, rI x7] = some w from e6)
    exact (rF_b (r := 6770) (by decide) rfl).mp e7
  have f2 := ro_423.mp f2
  clear m1 m2 m3 m4
  have q0 : rB K n p 407 [rR x0, rI x2] (jup σ x1 (jsto (σ x1) x6.toNatClampNeg x8)) := ro_407.mpr ⟨_, rMg_up hT s0 t0 b6 d6, by
    have hc := f2.2.2.1
    have e : rCv x2.toInt = x6.toInt := by
      unfold rCv
      rw [if_neg (by omega), ← f1.1]
      omega
    have hv : rVc p.1 x2.toInt := ⟨f2.1, f2.2.1, by omega⟩
    refine ⟨f0.1, ?_⟩
    rw [rV1_y hv, ← f0.2, e, show x8.toInt = 0 by omega]⟩
  exact ⟨p, fun _ => rfl, ⟨(fun q h => by cases h), fun q h => (by cases h), (fun f h => by cases h), (aAllc ⟨_, rfl, rF_p (r := 6514) (by decide) (by decide) q0⟩ (fun f h => by cases h))⟩, [], List.mem_cons_self, fun f h => (by cases h)⟩
theorem rw_rwU1n {K : Nat → Nat} {n : Nat} {JX : (Nat → jcell) → Prop} : aGho (rF K n) fa_T K n JX ag_rwU1n := by
  refine aGho_of ⟨rfl, rfl⟩ ?_
  intro p σ ρ hH hX hA hM0
  have hG := aAG_of hA.1 (fun i e v he hv => (hA.2 i e v he hv).1)
  clear hA
  obtain ⟨v0, v1, rfl, g0, g1⟩ := rA_2 hG
  clear hG
  obtain ⟨x0, rfl, b0, d0⟩ := rG_ref (by decide) g0
  obtain ⟨x1, rfl, b1, d1⟩ := aG_int g1
  dsimp only at b1 d1
  obtain ⟨m1, m2, m3, m4⟩ := hM0
  obtain ⟨T, hT⟩ := rTe_ex hH b0 d0
  have f0 : rB K n p 406 [rR x0, rI x1] σ := by
    obtain ⟨w, e6, e7⟩ := m4 (6498, [0, 1]) (List.mem_of_getElem? (i := 0) rfl)
    obtain rfl : [rR x0, rI x1] = w := Option.some.inj (show some [rR x0, rI x1] = some w from e6)
    exact (rF_b (r := 6498) (by decide) rfl).mp e7
  obtain ⟨M9, h9, f0⟩ := ro_406.mp f0
  obtain rfl := rMg_u hT h9
  clear h9
  have f1 : rB K n p 424 [rI x1] σ := by
    obtain ⟨w, e6, e7⟩ := m4 (6785, [1]) (List.mem_of_getElem? (i := 1) rfl)
    obtain rfl : [rI x1] = w := Option.some.inj (show some [rI x1] = some w from e6)
    exact (rF_b (r := 6785) (by decide) rfl).mp e7
  have f1 := ro_424.mp f1
  clear m1 m2 m3 m4
  have q0 : rB K n p 407 [rR x0, rI x1] σ := ro_407.mpr ⟨_, hT, by
    refine ⟨f0.1, ?_⟩
    rw [rV1_n f1]
    exact f0.2⟩
  exact ⟨p, fun _ => rfl, ⟨(fun q h => by cases h), fun q h => (by cases h), (fun f h => by cases h), (aAllc ⟨_, rfl, (rF_b (r := 6514) (by decide) rfl).mpr q0⟩ (fun f h => by cases h))⟩, [], List.mem_cons_self, fun f h => (by cases h)⟩
theorem rw_rwU2 {K : Nat → Nat} {n : Nat} {JX : (Nat → jcell) → Prop} : aGho (rF K n) fa_T K n JX ag_rwU2 := by
  refine aGho_of ⟨rfl, rfl⟩ ?_
  intro p σ ρ hH hX hA hM0
  have hG := aAG_of hA.1 (fun i e v he hv => (hA.2 i e v he hv).1)
  clear hA
  obtain ⟨v0, v1, v2, v3, v4, v5, v6, rfl, g0, g1, g2, g3, g4, g5, g6⟩ := rA_7 hG
  clear hG
  obtain ⟨x0, rfl, b0, d0⟩ := rG_ref (by decide) g0
  obtain ⟨x1, rfl, b1, d1⟩ := rG_ref (by decide) g1
  obtain ⟨x2, rfl, b2, d2⟩ := aG_int g2
  dsimp only at b2 d2
  obtain ⟨x3, rfl, b3, d3⟩ := aG_int g3
  dsimp only at b3 d3
  obtain ⟨x4, rfl, b4, d4⟩ := aG_int g4
  dsimp only at b4 d4
  obtain ⟨x5, rfl, b5, d5⟩ := aG_int g5
  dsimp only at b5 d5
  obtain ⟨x6, rfl, b6, d6⟩ := aG_int g6
  dsimp only at b6 d6
  obtain ⟨m1, m2, m3, m4⟩ := hM0
  obtain ⟨T, hT⟩ := rTe_ex hH b0 d0
  obtain ⟨a0, c0, fs0, w0, e1, s0, t0, e4⟩ := m1 (0, 24, 1) (List.mem_of_getElem? (i := 0) rfl)
  obtain rfl : x0 = a0 := Sum.inl.inj (Option.some.inj (Sum.inr.inj (Sum.inr.inj (Option.some.inj (show some (rR x0) = some _ from e1)))))
  obtain rfl : rR x1 = w0 := Option.some.inj (show some (rR x1) = some w0 from e4)
  clear e1 e4
  have f0 : rB K n p 407 [rR x0, rI x2] σ := by
    obtain ⟨w, e6, e7⟩ := m4 (6514, [0, 2]) (List.mem_of_getElem? (i := 0) rfl)
    obtain rfl : [rR x0, rI x2] = w := Option.some.inj (show some [rR x0, rI x2] = some w from e6)
    exact (rF_b (r := 6514) (by decide) rfl).mp e7
  obtain ⟨M9, h9, f0⟩ := ro_407.mp f0
  obtain rfl := rMg_u hT h9
  clear h9
  have f1 : rB K n p 160 [rI x2, rI x3, rI x4, rI x5] σ := by
    obtain ⟨w, e6, e7⟩ := m4 (2564, [2, 3, 4, 5]) (List.mem_of_getElem? (i := 1) rfl)
    obtain rfl : [rI x2, rI x3, rI x4, rI x5] = w := Option.some.inj (show some [rI x2, rI x3, rI x4, rI x5] = some w from e6)
    exact (rF_b (r := 2564) (by decide) rfl).mp e7
  have f1 := ro_160.mp f1
  clear m1 m2 m3 m4
  have q0 : rB K n p 408 [rR x0, rI x2] (jup σ x1 (jsto (σ x1) x3.toNatClampNeg x6)) := ro_408.mpr ⟨_, rMg_up hT s0 t0 b3 d3, by
    refine ⟨f0.1, ?_⟩
    unfold rV2
    rw [f0.2, ← f1.1, show x6.toInt = 0 by omega]⟩
  exact ⟨p, fun _ => rfl, ⟨(fun q h => by cases h), fun q h => (by cases h), (fun f h => by cases h), (aAllc ⟨_, rfl, rF_p (r := 6530) (by decide) (by decide) q0⟩ (fun f h => by cases h))⟩, [], List.mem_cons_self, fun f h => (by cases h)⟩
theorem rw_rwU3a {K : Nat → Nat} {n : Nat} {JX : (Nat → jcell) → Prop} : aGho (rF K n) fa_T K n JX ag_rwU3a := by
  refine aGho_of ⟨rfl, rfl⟩ ?_
  intro p σ ρ hH hX hA hM0
  have hG := aAG_of hA.1 (fun i e v he hv => (hA.2 i e v he hv).1)
  clear hA
  obtain ⟨v0, v1, v2, v3, v4, v5, v6, v7, rfl, g0, g1, g2, g3, g4, g5, g6, g7⟩ := rA_8 hG
  clear hG
  obtain ⟨x0, rfl, b0, d0⟩ := rG_ref (by decide) g0
  obtain ⟨x1, rfl, b1, d1⟩ := rG_ref (by decide) g1
  obtain ⟨x2, rfl, b2, d2⟩ := aG_int g2
  dsimp only at b2 d2
  obtain ⟨x3, rfl, b3, d3⟩ := aG_int g3
  dsimp only at b3 d3
  obtain ⟨x4, rfl, b4, d4⟩ := aG_int g4
  dsimp only at b4 d4
  obtain ⟨x5, rfl, b5, d5⟩ := aG_int g5
  dsimp only at b5 d5
  obtain ⟨x6, rfl, b6, d6⟩ := aG_int g6
  dsimp only at b6 d6
  obtain ⟨x7, rfl, b7, d7⟩ := aG_int g7
  dsimp only at b7 d7
  obtain ⟨m1, m2, m3, m4⟩ := hM0
  obtain ⟨T, hT⟩ := rTe_ex hH b0 d0
  obtain ⟨a0, c0, fs0, w0, e1, s0, t0, e4⟩ := m1 (0, 24, 1) (List.mem_of_getElem? (i := 0) rfl)
  obtain rfl : x0 = a0 := Sum.inl.inj (Option.some.inj (Sum.inr.inj (Sum.inr.inj (Option.some.inj (show some (rR x0) = some _ from e1)))))
  obtain rfl : rR x1 = w0 := Option.some.inj (show some (rR x1) = some w0 from e4)
  clear e1 e4
  have l0 : 0 ≤ (1 * x6.toInt + (-1 * x5.toInt + (-8 * x7.toInt + 0))) + 0 := by
    obtain ⟨z, e6, e7⟩ := m3 ([(6, 1), (5, -1), (7, -8)], 0) (List.mem_of_getElem? (i := 0) rfl)
    obtain rfl : (1 * x6.toInt + (-1 * x5.toInt + (-8 * x7.toInt + 0))) = z := Option.some.inj (show some (1 * x6.toInt + (-1 * x5.toInt + (-8 * x7.toInt + 0))) = some z from e6)
    exact e7
  have l1 : 0 ≤ (-1 * x6.toInt + (1 * x5.toInt + (8 * x7.toInt + 0))) + 0 := by
    obtain ⟨z, e6, e7⟩ := m3 ([(6, -1), (5, 1), (7, 8)], 0) (List.mem_of_getElem? (i := 1) rfl)
    obtain rfl : (-1 * x6.toInt + (1 * x5.toInt + (8 * x7.toInt + 0))) = z := Option.some.inj (show some (-1 * x6.toInt + (1 * x5.toInt + (8 * x7.toInt + 0))) = some z from e6)
    exact e7
  have f0 : rB K n p 408 [rR x0, rI x2] σ := by
    obtain ⟨w, e6, e7⟩ := m4 (6530, [0, 2]) (List.mem_of_getElem? (i := 0) rfl)
    obtain rfl : [rR x0, rI x2] = w := Option.some.inj (show some [rR x0, rI x2] = some w from e6)
    exact (rF_b (r := 6530) (by decide) rfl).mp e7
  obtain ⟨M9, h9, f0⟩ := ro_408.mp f0
  obtain rfl := rMg_u hT h9
  clear h9
  have f1 : rB K n p 160 [rI x2, rI x3, rI x4, rI x5] σ := by
    obtain ⟨w, e6, e7⟩ := m4 (2564, [2, 3, 4, 5]) (List.mem_of_getElem? (i := 1) rfl)
    obtain rfl : [rI x2, rI x3, rI x4, rI x5] = w := Option.some.inj (show some [rI x2, rI x3, rI x4, rI x5] = some w from e6)
    exact (rF_b (r := 2564) (by decide) rfl).mp e7
  have f1 := ro_160.mp f1
  have f2 : rB K n p 417 [rI x7] σ := by
    obtain ⟨w, e6, e7⟩ := m4 (6673, [7]) (List.mem_of_getElem? (i := 2) rfl)
    obtain rfl : [rI x7] = w := Option.some.inj (show some [rI x7] = some w from e6)
    exact (rF_b (r := 6673) (by decide) rfl).mp e7
  have f2 := ro_417.mp f2
  clear m1 m2 m3 m4
  have q0 : rB K n p 409 [rR x0, rI x2] (jup σ x1 (jsto (σ x1) x4.toNatClampNeg x6)) := ro_409.mpr ⟨_, rMg_up hT s0 t0 b4 d4, by
    refine ⟨f0.1, ?_⟩
    unfold rV3
    rw [f0.2, ← f1.2.1, ← f1.2.2, if_pos (by omega), show x6.toInt = x5.toInt + 8 * p.1.2.1 by omega]⟩
  exact ⟨p, fun _ => rfl, ⟨(fun q h => by cases h), fun q h => (by cases h), (fun f h => by cases h), (aAllc ⟨_, rfl, rF_p (r := 6546) (by decide) (by decide) q0⟩ (fun f h => by cases h))⟩, [], List.mem_cons_self, fun f h => (by cases h)⟩
theorem rw_rwU3b {K : Nat → Nat} {n : Nat} {JX : (Nat → jcell) → Prop} : aGho (rF K n) fa_T K n JX ag_rwU3b := by
  refine aGho_of ⟨rfl, rfl⟩ ?_
  intro p σ ρ hH hX hA hM0
  have hG := aAG_of hA.1 (fun i e v he hv => (hA.2 i e v he hv).1)
  clear hA
  obtain ⟨v0, v1, v2, v3, v4, v5, v6, rfl, g0, g1, g2, g3, g4, g5, g6⟩ := rA_7 hG
  clear hG
  obtain ⟨x0, rfl, b0, d0⟩ := rG_ref (by decide) g0
  obtain ⟨x1, rfl, b1, d1⟩ := rG_ref (by decide) g1
  obtain ⟨x2, rfl, b2, d2⟩ := aG_int g2
  dsimp only at b2 d2
  obtain ⟨x3, rfl, b3, d3⟩ := aG_int g3
  dsimp only at b3 d3
  obtain ⟨x4, rfl, b4, d4⟩ := aG_int g4
  dsimp only at b4 d4
  obtain ⟨x5, rfl, b5, d5⟩ := aG_int g5
  dsimp only at b5 d5
  obtain ⟨x6, rfl, b6, d6⟩ := aG_int g6
  dsimp only at b6 d6
  obtain ⟨m1, m2, m3, m4⟩ := hM0
  obtain ⟨T, hT⟩ := rTe_ex hH b0 d0
  obtain ⟨a0, c0, fs0, w0, e1, s0, t0, e4⟩ := m1 (0, 24, 1) (List.mem_of_getElem? (i := 0) rfl)
  obtain rfl : x0 = a0 := Sum.inl.inj (Option.some.inj (Sum.inr.inj (Sum.inr.inj (Option.some.inj (show some (rR x0) = some _ from e1)))))
  obtain rfl : rR x1 = w0 := Option.some.inj (show some (rR x1) = some w0 from e4)
  clear e1 e4
  have f0 : rB K n p 408 [rR x0, rI x2] σ := by
    obtain ⟨w, e6, e7⟩ := m4 (6530, [0, 2]) (List.mem_of_getElem? (i := 0) rfl)
    obtain rfl : [rR x0, rI x2] = w := Option.some.inj (show some [rR x0, rI x2] = some w from e6)
    exact (rF_b (r := 6530) (by decide) rfl).mp e7
  obtain ⟨M9, h9, f0⟩ := ro_408.mp f0
  obtain rfl := rMg_u hT h9
  clear h9
  have f1 : rB K n p 160 [rI x2, rI x3, rI x4, rI x5] σ := by
    obtain ⟨w, e6, e7⟩ := m4 (2564, [2, 3, 4, 5]) (List.mem_of_getElem? (i := 1) rfl)
    obtain rfl : [rI x2, rI x3, rI x4, rI x5] = w := Option.some.inj (show some [rI x2, rI x3, rI x4, rI x5] = some w from e6)
    exact (rF_b (r := 2564) (by decide) rfl).mp e7
  have f1 := ro_160.mp f1
  have f2 : rB K n p 412 [rI x2, rI x6] σ := by
    obtain ⟨w, e6, e7⟩ := m4 (6594, [2, 6]) (List.mem_of_getElem? (i := 2) rfl)
    obtain rfl : [rI x2, rI x6] = w := Option.some.inj (show some [rI x2, rI x6] = some w from e6)
    exact (rF_b (r := 6594) (by decide) rfl).mp e7
  have f2 := ro_412.mp f2
  clear m1 m2 m3 m4
  have q0 : rB K n p 409 [rR x0, rI x2] (jup σ x1 (jsto (σ x1) x4.toNatClampNeg x6)) := ro_409.mpr ⟨_, rMg_up hT s0 t0 b4 d4, by
    refine ⟨f0.1, ?_⟩
    unfold rV3
    rw [f0.2, ← f1.2.1, ← f1.2.2, if_neg (by omega), ← f2]⟩
  exact ⟨p, fun _ => rfl, ⟨(fun q h => by cases h), fun q h => (by cases h), (fun f h => by cases h), (aAllc ⟨_, rfl, rF_p (r := 6546) (by decide) (by decide) q0⟩ (fun f h => by cases h))⟩, [], List.mem_cons_self, fun f h => (by cases h)⟩
theorem rw_rwR1 {K : Nat → Nat} {n : Nat} {JX : (Nat → jcell) → Prop} : aGho (rF K n) fa_T K n JX ag_rwR1 := by
  refine aGho_of ⟨rfl, rfl⟩ ?_
  intro p σ ρ hH hX hA hM0
  have hG := aAG_of hA.1 (fun i e v he hv => (hA.2 i e v he hv).1)
  clear hA
  obtain ⟨v0, v1, v2, v3, v4, v5, rfl, g0, g1, g2, g3, g4, g5⟩ := rA_6 hG
  clear hG
  obtain ⟨x0, rfl, b0, d0⟩ := aG_int g0
  dsimp only at b0 d0
  obtain ⟨x1, rfl, b1, d1⟩ := aG_int g1
  dsimp only at b1 d1
  obtain ⟨x2, rfl, b2, d2⟩ := aG_int g2
  dsimp only at b2 d2
  obtain ⟨x3, rfl, b3, d3⟩ := aG_int g3
  dsimp only at b3 d3
  obtain ⟨x4, rfl, b4, d4⟩ := aG_int g4
  dsimp only at b4 d4
  obtain ⟨x5, rfl, b5, d5⟩ := aG_int g5
  dsimp only at b5 d5
  obtain ⟨m1, m2, m3, m4⟩ := hM0
  have f0 : rB K n p 160 [rI x0, rI x1, rI x2, rI x3] σ := by
    obtain ⟨w, e6, e7⟩ := m4 (2564, [0, 1, 2, 3]) (List.mem_of_getElem? (i := 0) rfl)
    obtain rfl : [rI x0, rI x1, rI x2, rI x3] = w := Option.some.inj (show some [rI x0, rI x1, rI x2, rI x3] = some w from e6)
    exact (rF_b (r := 2564) (by decide) rfl).mp e7
  have f0 := ro_160.mp f0
  have f1 : rB K n p 418 [rI x4] σ := by
    obtain ⟨w, e6, e7⟩ := m4 (6689, [4]) (List.mem_of_getElem? (i := 1) rfl)
    obtain rfl : [rI x4] = w := Option.some.inj (show some [rI x4] = some w from e6)
    exact (rF_b (r := 6689) (by decide) rfl).mp e7
  have f1 := ro_418.mp f1
  have f2 : rB K n p 163 [rI x1, rI x4, rI x5] σ := by
    obtain ⟨w, e6, e7⟩ := m4 (2611, [1, 4, 5]) (List.mem_of_getElem? (i := 2) rfl)
    obtain rfl : [rI x1, rI x4, rI x5] = w := Option.some.inj (show some [rI x1, rI x4, rI x5] = some w from e6)
    exact (rF_b (r := 2611) (by decide) rfl).mp e7
  have f2 := ro_163.mp f2
  clear m1 m2 m3 m4
  have q0 : rB K n p 425 [rI x0, rI x5] σ := ro_425.mpr (by
    rw [← f0.1, ← f1]
    exact f2)
  exact ⟨p, fun _ => rfl, ⟨(fun q h => by cases h), fun q h => (by cases h), (fun f h => by cases h), (aAllc ⟨_, rfl, (rF_b (r := 6802) (by decide) rfl).mpr q0⟩ (fun f h => by cases h))⟩, [], List.mem_cons_self, fun f h => (by cases h)⟩
theorem rw_rwR2 {K : Nat → Nat} {n : Nat} {JX : (Nat → jcell) → Prop} : aGho (rF K n) fa_T K n JX ag_rwR2 := by
  refine aGho_of ⟨rfl, rfl⟩ ?_
  intro p σ ρ hH hX hA hM0
  have hG := aAG_of hA.1 (fun i e v he hv => (hA.2 i e v he hv).1)
  clear hA
  obtain ⟨v0, v1, v2, v3, v4, v5, rfl, g0, g1, g2, g3, g4, g5⟩ := rA_6 hG
  clear hG
  obtain ⟨x0, rfl, b0, d0⟩ := aG_int g0
  dsimp only at b0 d0
  obtain ⟨x1, rfl, b1, d1⟩ := aG_int g1
  dsimp only at b1 d1
  obtain ⟨x2, rfl, b2, d2⟩ := aG_int g2
  dsimp only at b2 d2
  obtain ⟨x3, rfl, b3, d3⟩ := aG_int g3
  dsimp only at b3 d3
  obtain ⟨x4, rfl, b4, d4⟩ := aG_int g4
  dsimp only at b4 d4
  obtain ⟨x5, rfl, b5, d5⟩ := aG_int g5
  dsimp only at b5 d5
  obtain ⟨m1, m2, m3, m4⟩ := hM0
  have f0 : rB K n p 160 [rI x0, rI x1, rI x2, rI x3] σ := by
    obtain ⟨w, e6, e7⟩ := m4 (2564, [0, 1, 2, 3]) (List.mem_of_getElem? (i := 0) rfl)
    obtain rfl : [rI x0, rI x1, rI x2, rI x3] = w := Option.some.inj (show some [rI x0, rI x1, rI x2, rI x3] = some w from e6)
    exact (rF_b (r := 2564) (by decide) rfl).mp e7
  have f0 := ro_160.mp f0
  have f1 : rB K n p 425 [rI x0, rI x4] σ := by
    obtain ⟨w, e6, e7⟩ := m4 (6802, [0, 4]) (List.mem_of_getElem? (i := 1) rfl)
    obtain rfl : [rI x0, rI x4] = w := Option.some.inj (show some [rI x0, rI x4] = some w from e6)
    exact (rF_b (r := 6802) (by decide) rfl).mp e7
  have f1 := ro_425.mp f1
  have f2 : rB K n p 163 [rI x2, rI x4, rI x5] σ := by
    obtain ⟨w, e6, e7⟩ := m4 (2611, [2, 4, 5]) (List.mem_of_getElem? (i := 2) rfl)
    obtain rfl : [rI x2, rI x4, rI x5] = w := Option.some.inj (show some [rI x2, rI x4, rI x5] = some w from e6)
    exact (rF_b (r := 2611) (by decide) rfl).mp e7
  have f2 := ro_163.mp f2
  clear m1 m2 m3 m4
  have q0 : rB K n p 414 [rI x0, rI x5] σ := ro_414.mpr (by
    rw [← f0.1, ← f0.2.1]
    have h := f1
    rw [← f0.1] at h
    rw [← h]
    exact f2)
  exact ⟨p, fun _ => rfl, ⟨(fun q h => by cases h), fun q h => (by cases h), (fun f h => by cases h), (aAllc ⟨_, rfl, (rF_b (r := 6626) (by decide) rfl).mpr q0⟩ (fun f h => by cases h))⟩, [], List.mem_cons_self, fun f h => (by cases h)⟩
theorem rw_rwNa {K : Nat → Nat} {n : Nat} {JX : (Nat → jcell) → Prop} : aGho (rF K n) fa_T K n JX ag_rwNa := by
  refine aGho_of ⟨rfl, rfl⟩ ?_
  intro p σ ρ hH hX hA hM0
  have hG := aAG_of hA.1 (fun i e v he hv => (hA.2 i e v he hv).1)
  clear hA
  obtain ⟨v0, v1, v2, v3, v4, v5, v6, rfl, g0, g1, g2, g3, g4, g5, g6⟩ := rA_7 hG
  clear hG
  obtain ⟨x0, rfl, b0, d0⟩ := rG_ref (by decide) g0
  obtain ⟨x1, rfl, b1, d1⟩ := aG_int g1
  dsimp only at b1 d1
  obtain ⟨x2, rfl, b2, d2⟩ := aG_int g2
  dsimp only at b2 d2
  obtain ⟨x3, rfl, b3, d3⟩ := aG_int g3
  dsimp only at b3 d3
  obtain ⟨x4, rfl, b4, d4⟩ := aG_int g4
  dsimp only at b4 d4
  obtain ⟨x5, rfl, b5, d5⟩ := aG_int g5
  dsimp only at b5 d5
  obtain ⟨x6, rfl, b6, d6⟩ := aG_int g6
  dsimp only at b6 d6
  obtain ⟨m1, m2, m3, m4⟩ := hM0
  obtain ⟨T, hT⟩ := rTe_ex hH b0 d0
  have f0 : rB K n p 160 [rI x1, rI x2, rI x3, rI x4] σ := by
    obtain ⟨w, e6, e7⟩ := m4 (2564, [1, 2, 3, 4]) (List.mem_of_getElem? (i := 0) rfl)
    obtain rfl : [rI x1, rI x2, rI x3, rI x4] = w := Option.some.inj (show some [rI x1, rI x2, rI x3, rI x4] = some w from e6)
    exact (rF_b (r := 2564) (by decide) rfl).mp e7
  have f0 := ro_160.mp f0
  have f1 : rB K n p 413 [rI x1, rI x6] σ := by
    obtain ⟨w, e6, e7⟩ := m4 (6610, [1, 6]) (List.mem_of_getElem? (i := 1) rfl)
    obtain rfl : [rI x1, rI x6] = w := Option.some.inj (show some [rI x1, rI x6] = some w from e6)
    exact (rF_b (r := 6610) (by decide) rfl).mp e7
  have f1 := ro_413.mp f1
  clear m1 m2 m3 m4
  have q0 : rB K n p 415 [rI x1, rI x5] σ := ro_415.mpr (by
    unfold rVp
    rw [if_neg (fun h => by have := h.1.1; omega)]
    omega)
  exact ⟨p, fun _ => rfl, ⟨(fun q h => by cases h), fun q h => (by cases h), (fun f h => by cases h), (aAllc ⟨_, rfl, (rF_b (r := 6642) (by decide) rfl).mpr q0⟩ (fun f h => by cases h))⟩, [], List.mem_cons_self, fun f h => (by cases h)⟩
theorem rw_rwNba {K : Nat → Nat} {n : Nat} {JX : (Nat → jcell) → Prop} : aGho (rF K n) fa_T K n JX ag_rwNba := by
  refine aGho_of ⟨rfl, rfl⟩ ?_
  intro p σ ρ hH hX hA hM0
  have hG := aAG_of hA.1 (fun i e v he hv => (hA.2 i e v he hv).1)
  clear hA
  obtain ⟨v0, v1, v2, v3, v4, v5, rfl, g0, g1, g2, g3, g4, g5⟩ := rA_6 hG
  clear hG
  obtain ⟨x0, rfl, b0, d0⟩ := rG_ref (by decide) g0
  obtain ⟨x1, rfl, b1, d1⟩ := aG_int g1
  dsimp only at b1 d1
  obtain ⟨x2, rfl, b2, d2⟩ := aG_int g2
  dsimp only at b2 d2
  obtain ⟨x3, rfl, b3, d3⟩ := aG_int g3
  dsimp only at b3 d3
  obtain ⟨x4, rfl, b4, d4⟩ := aG_int g4
  dsimp only at b4 d4
  obtain ⟨x5, rfl, b5, d5⟩ := aG_int g5
  dsimp only at b5 d5
  obtain ⟨m1, m2, m3, m4⟩ := hM0
  obtain ⟨T, hT⟩ := rTe_ex hH b0 d0
  have l0 : 0 ≤ (1 * x3.toInt + (-1 * x2.toInt + 0)) + -17 := by
    obtain ⟨z, e6, e7⟩ := m3 ([(3, 1), (2, -1)], -17) (List.mem_of_getElem? (i := 0) rfl)
    obtain rfl : (1 * x3.toInt + (-1 * x2.toInt + 0)) = z := Option.some.inj (show some (1 * x3.toInt + (-1 * x2.toInt + 0)) = some z from e6)
    exact e7
  have f0 : rB K n p 160 [rI x1, rI x2, rI x3, rI x4] σ := by
    obtain ⟨w, e6, e7⟩ := m4 (2564, [1, 2, 3, 4]) (List.mem_of_getElem? (i := 0) rfl)
    obtain rfl : [rI x1, rI x2, rI x3, rI x4] = w := Option.some.inj (show some [rI x1, rI x2, rI x3, rI x4] = some w from e6)
    exact (rF_b (r := 2564) (by decide) rfl).mp e7
  have f0 := ro_160.mp f0
  clear m1 m2 m3 m4
  have q0 : rB K n p 415 [rI x1, rI x5] σ := ro_415.mpr (by
    unfold rVp
    rw [if_neg (fun h => by have h1 := h.1.2; rw [← f0.1, ← f0.2.1] at h1; omega)]
    omega)
  exact ⟨p, fun _ => rfl, ⟨(fun q h => by cases h), fun q h => (by cases h), (fun f h => by cases h), (aAllc ⟨_, rfl, (rF_b (r := 6642) (by decide) rfl).mpr q0⟩ (fun f h => by cases h))⟩, [], List.mem_cons_self, fun f h => (by cases h)⟩
theorem rw_rwNbb {K : Nat → Nat} {n : Nat} {JX : (Nat → jcell) → Prop} : aGho (rF K n) fa_T K n JX ag_rwNbb := by
  refine aGho_of ⟨rfl, rfl⟩ ?_
  intro p σ ρ hH hX hA hM0
  have hG := aAG_of hA.1 (fun i e v he hv => (hA.2 i e v he hv).1)
  clear hA
  obtain ⟨v0, v1, v2, v3, v4, v5, rfl, g0, g1, g2, g3, g4, g5⟩ := rA_6 hG
  clear hG
  obtain ⟨x0, rfl, b0, d0⟩ := rG_ref (by decide) g0
  obtain ⟨x1, rfl, b1, d1⟩ := aG_int g1
  dsimp only at b1 d1
  obtain ⟨x2, rfl, b2, d2⟩ := aG_int g2
  dsimp only at b2 d2
  obtain ⟨x3, rfl, b3, d3⟩ := aG_int g3
  dsimp only at b3 d3
  obtain ⟨x4, rfl, b4, d4⟩ := aG_int g4
  dsimp only at b4 d4
  obtain ⟨x5, rfl, b5, d5⟩ := aG_int g5
  dsimp only at b5 d5
  obtain ⟨m1, m2, m3, m4⟩ := hM0
  obtain ⟨T, hT⟩ := rTe_ex hH b0 d0
  have l0 : 0 ≤ (-1 * x3.toInt + (1 * x2.toInt + 0)) + 15 := by
    obtain ⟨z, e6, e7⟩ := m3 ([(3, -1), (2, 1)], 15) (List.mem_of_getElem? (i := 0) rfl)
    obtain rfl : (-1 * x3.toInt + (1 * x2.toInt + 0)) = z := Option.some.inj (show some (-1 * x3.toInt + (1 * x2.toInt + 0)) = some z from e6)
    exact e7
  have l1 : 0 ≤ (1 * x3.toInt + (-1 * x2.toInt + 0)) + 15 := by
    obtain ⟨z, e6, e7⟩ := m3 ([(3, 1), (2, -1)], 15) (List.mem_of_getElem? (i := 1) rfl)
    obtain rfl : (1 * x3.toInt + (-1 * x2.toInt + 0)) = z := Option.some.inj (show some (1 * x3.toInt + (-1 * x2.toInt + 0)) = some z from e6)
    exact e7
  have f0 : rB K n p 160 [rI x1, rI x2, rI x3, rI x4] σ := by
    obtain ⟨w, e6, e7⟩ := m4 (2564, [1, 2, 3, 4]) (List.mem_of_getElem? (i := 0) rfl)
    obtain rfl : [rI x1, rI x2, rI x3, rI x4] = w := Option.some.inj (show some [rI x1, rI x2, rI x3, rI x4] = some w from e6)
    exact (rF_b (r := 2564) (by decide) rfl).mp e7
  have f0 := ro_160.mp f0
  clear m1 m2 m3 m4
  have q0 : rB K n p 415 [rI x1, rI x5] σ := ro_415.mpr (by
    unfold rVp
    rw [if_neg (fun h => by have h1 := h.1.2; rw [← f0.1, ← f0.2.1] at h1; omega)]
    omega)
  exact ⟨p, fun _ => rfl, ⟨(fun q h => by cases h), fun q h => (by cases h), (fun f h => by cases h), (aAllc ⟨_, rfl, (rF_b (r := 6642) (by decide) rfl).mpr q0⟩ (fun f h => by cases h))⟩, [], List.mem_cons_self, fun f h => (by cases h)⟩
theorem rw_rwNbc {K : Nat → Nat} {n : Nat} {JX : (Nat → jcell) → Prop} : aGho (rF K n) fa_T K n JX ag_rwNbc := by
  refine aGho_of ⟨rfl, rfl⟩ ?_
  intro p σ ρ hH hX hA hM0
  have hG := aAG_of hA.1 (fun i e v he hv => (hA.2 i e v he hv).1)
  clear hA
  obtain ⟨v0, v1, v2, v3, v4, v5, rfl, g0, g1, g2, g3, g4, g5⟩ := rA_6 hG
  clear hG
  obtain ⟨x0, rfl, b0, d0⟩ := rG_ref (by decide) g0
  obtain ⟨x1, rfl, b1, d1⟩ := aG_int g1
  dsimp only at b1 d1
  obtain ⟨x2, rfl, b2, d2⟩ := aG_int g2
  dsimp only at b2 d2
  obtain ⟨x3, rfl, b3, d3⟩ := aG_int g3
  dsimp only at b3 d3
  obtain ⟨x4, rfl, b4, d4⟩ := aG_int g4
  dsimp only at b4 d4
  obtain ⟨x5, rfl, b5, d5⟩ := aG_int g5
  dsimp only at b5 d5
  obtain ⟨m1, m2, m3, m4⟩ := hM0
  obtain ⟨T, hT⟩ := rTe_ex hH b0 d0
  have l0 : 0 ≤ (-1 * x3.toInt + (1 * x2.toInt + 0)) + -17 := by
    obtain ⟨z, e6, e7⟩ := m3 ([(3, -1), (2, 1)], -17) (List.mem_of_getElem? (i := 0) rfl)
    obtain rfl : (-1 * x3.toInt + (1 * x2.toInt + 0)) = z := Option.some.inj (show some (-1 * x3.toInt + (1 * x2.toInt + 0)) = some z from e6)
    exact e7
  have f0 : rB K n p 160 [rI x1, rI x2, rI x3, rI x4] σ := by
    obtain ⟨w, e6, e7⟩ := m4 (2564, [1, 2, 3, 4]) (List.mem_of_getElem? (i := 0) rfl)
    obtain rfl : [rI x1, rI x2, rI x3, rI x4] = w := Option.some.inj (show some [rI x1, rI x2, rI x3, rI x4] = some w from e6)
    exact (rF_b (r := 2564) (by decide) rfl).mp e7
  have f0 := ro_160.mp f0
  clear m1 m2 m3 m4
  have q0 : rB K n p 415 [rI x1, rI x5] σ := ro_415.mpr (by
    unfold rVp
    rw [if_neg (fun h => by have h1 := h.1.2; rw [← f0.1, ← f0.2.1] at h1; omega)]
    omega)
  exact ⟨p, fun _ => rfl, ⟨(fun q h => by cases h), fun q h => (by cases h), (fun f h => by cases h), (aAllc ⟨_, rfl, (rF_b (r := 6642) (by decide) rfl).mpr q0⟩ (fun f h => by cases h))⟩, [], List.mem_cons_self, fun f h => (by cases h)⟩
theorem rw_rwNylu {K : Nat → Nat} {n : Nat} {JX : (Nat → jcell) → Prop} : aGho (rF K n) fa_T K n JX ag_rwNylu := by
  refine aGho_of ⟨rfl, rfl⟩ ?_
  intro p σ ρ hH hX hA hM0
  have hG := aAG_of hA.1 (fun i e v he hv => (hA.2 i e v he hv).1)
  clear hA
  obtain ⟨v0, v1, v2, v3, v4, v5, v6, v7, v8, v9, v10, v11, v12, rfl, g0, g1, g2, g3, g4, g5, g6, g7, g8, g9, g10, g11, g12⟩ := rA_13 hG
  clear hG
  obtain ⟨x0, rfl, b0, d0⟩ := rG_ref (by decide) g0
  obtain ⟨x1, rfl, b1, d1⟩ := aG_int g1
  dsimp only at b1 d1
  obtain ⟨x2, rfl, b2, d2⟩ := aG_int g2
  dsimp only at b2 d2
  obtain ⟨x3, rfl, b3, d3⟩ := aG_int g3
  dsimp only at b3 d3
  obtain ⟨x4, rfl, b4, d4⟩ := aG_int g4
  dsimp only at b4 d4
  obtain ⟨x5, rfl, b5, d5⟩ := aG_int g5
  dsimp only at b5 d5
  obtain ⟨x6, rfl, b6, d6⟩ := aG_int g6
  dsimp only at b6 d6
  obtain ⟨x7, rfl, b7, d7⟩ := aG_int g7
  dsimp only at b7 d7
  obtain ⟨x8, rfl, b8, d8⟩ := aG_int g8
  dsimp only at b8 d8
  obtain ⟨x9, rfl, b9, d9⟩ := aG_int g9
  dsimp only at b9 d9
  obtain ⟨x10, rfl, b10, d10⟩ := aG_int g10
  dsimp only at b10 d10
  obtain ⟨x11, rfl, b11, d11⟩ := aG_int g11
  dsimp only at b11 d11
  obtain ⟨x12, rfl, b12, d12⟩ := aG_int g12
  dsimp only at b12 d12
  obtain ⟨m1, m2, m3, m4⟩ := hM0
  obtain ⟨T, hT⟩ := rTe_ex hH b0 d0
  have l0 : 0 ≤ (1 * x3.toInt + (-1 * x2.toInt + 0)) + -16 := by
    obtain ⟨z, e6, e7⟩ := m3 ([(3, 1), (2, -1)], -16) (List.mem_of_getElem? (i := 0) rfl)
    obtain rfl : (1 * x3.toInt + (-1 * x2.toInt + 0)) = z := Option.some.inj (show some (1 * x3.toInt + (-1 * x2.toInt + 0)) = some z from e6)
    exact e7
  have l1 : 0 ≤ (-1 * x3.toInt + (1 * x2.toInt + 0)) + 16 := by
    obtain ⟨z, e6, e7⟩ := m3 ([(3, -1), (2, 1)], 16) (List.mem_of_getElem? (i := 1) rfl)
    obtain rfl : (-1 * x3.toInt + (1 * x2.toInt + 0)) = z := Option.some.inj (show some (-1 * x3.toInt + (1 * x2.toInt + 0)) = some z from e6)
    exact e7
  have l2 : 0 ≤ (1 * x9.toInt + (8 * x5.toInt + 0)) + -9 := by
    obtain ⟨z, e6, e7⟩ := m3 ([(9, 1), (5, 8)], -9) (List.mem_of_getElem? (i := 2) rfl)
    obtain rfl : (1 * x9.toInt + (8 * x5.toInt + 0)) = z := Option.some.inj (show some (1 * x9.toInt + (8 * x5.toInt + 0)) = some z from e6)
    exact e7
  have l3 : 0 ≤ (-1 * x9.toInt + (-8 * x5.toInt + 0)) + 9 := by
    obtain ⟨z, e6, e7⟩ := m3 ([(9, -1), (5, -8)], 9) (List.mem_of_getElem? (i := 3) rfl)
    obtain rfl : (-1 * x9.toInt + (-8 * x5.toInt + 0)) = z := Option.some.inj (show some (-1 * x9.toInt + (-8 * x5.toInt + 0)) = some z from e6)
    exact e7
  have l4 : 0 ≤ (1 * x2.toInt + (1 * x3.toInt + (-2 * x11.toInt + 0))) + 0 := by
    obtain ⟨z, e6, e7⟩ := m3 ([(2, 1), (3, 1), (11, -2)], 0) (List.mem_of_getElem? (i := 4) rfl)
    obtain rfl : (1 * x2.toInt + (1 * x3.toInt + (-2 * x11.toInt + 0))) = z := Option.some.inj (show some (1 * x2.toInt + (1 * x3.toInt + (-2 * x11.toInt + 0))) = some z from e6)
    exact e7
  have l5 : 0 ≤ (-1 * x2.toInt + (-1 * x3.toInt + (2 * x11.toInt + 0))) + 1 := by
    obtain ⟨z, e6, e7⟩ := m3 ([(2, -1), (3, -1), (11, 2)], 1) (List.mem_of_getElem? (i := 5) rfl)
    obtain rfl : (-1 * x2.toInt + (-1 * x3.toInt + (2 * x11.toInt + 0))) = z := Option.some.inj (show some (-1 * x2.toInt + (-1 * x3.toInt + (2 * x11.toInt + 0))) = some z from e6)
    exact e7
  have f0 : rB K n p 409 [rR x0, rI x1] σ := by
    obtain ⟨w, e6, e7⟩ := m4 (6546, [0, 1]) (List.mem_of_getElem? (i := 0) rfl)
    obtain rfl : [rR x0, rI x1] = w := Option.some.inj (show some [rR x0, rI x1] = some w from e6)
    exact (rF_b (r := 6546) (by decide) rfl).mp e7
  obtain ⟨M9, h9, f0⟩ := ro_409.mp f0
  obtain rfl := rMg_u hT h9
  clear h9
  have f1 : rB K n p 160 [rI x1, rI x2, rI x3, rI x4] σ := by
    obtain ⟨w, e6, e7⟩ := m4 (2564, [1, 2, 3, 4]) (List.mem_of_getElem? (i := 1) rfl)
    obtain rfl : [rI x1, rI x2, rI x3, rI x4] = w := Option.some.inj (show some [rI x1, rI x2, rI x3, rI x4] = some w from e6)
    exact (rF_b (r := 2564) (by decide) rfl).mp e7
  have f1 := ro_160.mp f1
  have f2 : rB K n p 413 [rI x1, rI x12] σ := by
    obtain ⟨w, e6, e7⟩ := m4 (6610, [1, 12]) (List.mem_of_getElem? (i := 2) rfl)
    obtain rfl : [rI x1, rI x12] = w := Option.some.inj (show some [rI x1, rI x12] = some w from e6)
    exact (rF_b (r := 6610) (by decide) rfl).mp e7
  have f2 := ro_413.mp f2
  have f3 : rB K n p 417 [rI x5] σ := by
    obtain ⟨w, e6, e7⟩ := m4 (6673, [5]) (List.mem_of_getElem? (i := 3) rfl)
    obtain rfl : [rI x5] = w := Option.some.inj (show some [rI x5] = some w from e6)
    exact (rF_b (r := 6673) (by decide) rfl).mp e7
  have f3 := ro_417.mp f3
  have f4 : rB K n p 120 [rI x3, rI x6, rI x7, rI x8] σ := by
    obtain ⟨w, e6, e7⟩ := m4 (1924, [3, 6, 7, 8]) (List.mem_of_getElem? (i := 4) rfl)
    obtain rfl : [rI x3, rI x6, rI x7, rI x8] = w := Option.some.inj (show some [rI x3, rI x6, rI x7, rI x8] = some w from e6)
    exact (rF_b (r := 1924) (by decide) rfl).mp e7
  have f4 := ro_120.mp f4
  have f5 : rB K n p 200 [rR x0, rI x8, rI x9, rI x10] σ := by
    obtain ⟨w, e6, e7⟩ := m4 (3204, [0, 8, 9, 10]) (List.mem_of_getElem? (i := 5) rfl)
    obtain rfl : [rR x0, rI x8, rI x9, rI x10] = w := Option.some.inj (show some [rR x0, rI x8, rI x9, rI x10] = some w from e6)
    exact (rF_b (r := 3204) (by decide) rfl).mp e7
  obtain ⟨M9, h9, f5⟩ := ro_200.mp f5
  obtain rfl := rMg_u hT h9
  clear h9
  clear m1 m2 m3 m4
  have q0 : rB K n p 415 [rI x1, rI x11] σ := ro_415.mpr (by
    have hn : rNbr (rV3 p.1 x1.toInt) (rTo x1.toInt) (-1) (1 + 8 * (1 - p.1.2.1)) := by
      unfold rNbr
      rw [← f0.2, ← f1.2.1, show rSp x3.toInt (-1) 0 = x8.toInt by rw [f4, show x6.toInt = -1 by omega, show x7.toInt = 0 by omega]]
      omega
    unfold rVp
    rw [if_pos ⟨⟨by omega, by rw [← f1.1, ← f1.2.1]; omega⟩, Or.inl hn⟩, ← f1.1, ← f1.2.1]
    omega)
  exact ⟨p, fun _ => rfl, ⟨(fun q h => by cases h), fun q h => (by cases h), (fun f h => by cases h), (aAllc ⟨_, rfl, (rF_b (r := 6642) (by decide) rfl).mpr q0⟩ (fun f h => by cases h))⟩, [], List.mem_cons_self, fun f h => (by cases h)⟩
theorem rw_rwNyru {K : Nat → Nat} {n : Nat} {JX : (Nat → jcell) → Prop} : aGho (rF K n) fa_T K n JX ag_rwNyru := by
  refine aGho_of ⟨rfl, rfl⟩ ?_
  intro p σ ρ hH hX hA hM0
  have hG := aAG_of hA.1 (fun i e v he hv => (hA.2 i e v he hv).1)
  clear hA
  obtain ⟨v0, v1, v2, v3, v4, v5, v6, v7, v8, v9, v10, v11, v12, rfl, g0, g1, g2, g3, g4, g5, g6, g7, g8, g9, g10, g11, g12⟩ := rA_13 hG
  clear hG
  obtain ⟨x0, rfl, b0, d0⟩ := rG_ref (by decide) g0
  obtain ⟨x1, rfl, b1, d1⟩ := aG_int g1
  dsimp only at b1 d1
  obtain ⟨x2, rfl, b2, d2⟩ := aG_int g2
  dsimp only at b2 d2
  obtain ⟨x3, rfl, b3, d3⟩ := aG_int g3
  dsimp only at b3 d3
  obtain ⟨x4, rfl, b4, d4⟩ := aG_int g4
  dsimp only at b4 d4
  obtain ⟨x5, rfl, b5, d5⟩ := aG_int g5
  dsimp only at b5 d5
  obtain ⟨x6, rfl, b6, d6⟩ := aG_int g6
  dsimp only at b6 d6
  obtain ⟨x7, rfl, b7, d7⟩ := aG_int g7
  dsimp only at b7 d7
  obtain ⟨x8, rfl, b8, d8⟩ := aG_int g8
  dsimp only at b8 d8
  obtain ⟨x9, rfl, b9, d9⟩ := aG_int g9
  dsimp only at b9 d9
  obtain ⟨x10, rfl, b10, d10⟩ := aG_int g10
  dsimp only at b10 d10
  obtain ⟨x11, rfl, b11, d11⟩ := aG_int g11
  dsimp only at b11 d11
  obtain ⟨x12, rfl, b12, d12⟩ := aG_int g12
  dsimp only at b12 d12
  obtain ⟨m1, m2, m3, m4⟩ := hM0
  obtain ⟨T, hT⟩ := rTe_ex hH b0 d0
  have l0 : 0 ≤ (1 * x3.toInt + (-1 * x2.toInt + 0)) + -16 := by
    obtain ⟨z, e6, e7⟩ := m3 ([(3, 1), (2, -1)], -16) (List.mem_of_getElem? (i := 0) rfl)
    obtain rfl : (1 * x3.toInt + (-1 * x2.toInt + 0)) = z := Option.some.inj (show some (1 * x3.toInt + (-1 * x2.toInt + 0)) = some z from e6)
    exact e7
  have l1 : 0 ≤ (-1 * x3.toInt + (1 * x2.toInt + 0)) + 16 := by
    obtain ⟨z, e6, e7⟩ := m3 ([(3, -1), (2, 1)], 16) (List.mem_of_getElem? (i := 1) rfl)
    obtain rfl : (-1 * x3.toInt + (1 * x2.toInt + 0)) = z := Option.some.inj (show some (-1 * x3.toInt + (1 * x2.toInt + 0)) = some z from e6)
    exact e7
  have l2 : 0 ≤ (1 * x9.toInt + (8 * x5.toInt + 0)) + -9 := by
    obtain ⟨z, e6, e7⟩ := m3 ([(9, 1), (5, 8)], -9) (List.mem_of_getElem? (i := 2) rfl)
    obtain rfl : (1 * x9.toInt + (8 * x5.toInt + 0)) = z := Option.some.inj (show some (1 * x9.toInt + (8 * x5.toInt + 0)) = some z from e6)
    exact e7
  have l3 : 0 ≤ (-1 * x9.toInt + (-8 * x5.toInt + 0)) + 9 := by
    obtain ⟨z, e6, e7⟩ := m3 ([(9, -1), (5, -8)], 9) (List.mem_of_getElem? (i := 3) rfl)
    obtain rfl : (-1 * x9.toInt + (-8 * x5.toInt + 0)) = z := Option.some.inj (show some (-1 * x9.toInt + (-8 * x5.toInt + 0)) = some z from e6)
    exact e7
  have l4 : 0 ≤ (1 * x2.toInt + (1 * x3.toInt + (-2 * x11.toInt + 0))) + 0 := by
    obtain ⟨z, e6, e7⟩ := m3 ([(2, 1), (3, 1), (11, -2)], 0) (List.mem_of_getElem? (i := 4) rfl)
    obtain rfl : (1 * x2.toInt + (1 * x3.toInt + (-2 * x11.toInt + 0))) = z := Option.some.inj (show some (1 * x2.toInt + (1 * x3.toInt + (-2 * x11.toInt + 0))) = some z from e6)
    exact e7
  have l5 : 0 ≤ (-1 * x2.toInt + (-1 * x3.toInt + (2 * x11.toInt + 0))) + 1 := by
    obtain ⟨z, e6, e7⟩ := m3 ([(2, -1), (3, -1), (11, 2)], 1) (List.mem_of_getElem? (i := 5) rfl)
    obtain rfl : (-1 * x2.toInt + (-1 * x3.toInt + (2 * x11.toInt + 0))) = z := Option.some.inj (show some (-1 * x2.toInt + (-1 * x3.toInt + (2 * x11.toInt + 0))) = some z from e6)
    exact e7
  have f0 : rB K n p 409 [rR x0, rI x1] σ := by
    obtain ⟨w, e6, e7⟩ := m4 (6546, [0, 1]) (List.mem_of_getElem? (i := 0) rfl)
    obtain rfl : [rR x0, rI x1] = w := Option.some.inj (show some [rR x0, rI x1] = some w from e6)
    exact (rF_b (r := 6546) (by decide) rfl).mp e7
  obtain ⟨M9, h9, f0⟩ := ro_409.mp f0
  obtain rfl := rMg_u hT h9
  clear h9
  have f1 : rB K n p 160 [rI x1, rI x2, rI x3, rI x4] σ := by
    obtain ⟨w, e6, e7⟩ := m4 (2564, [1, 2, 3, 4]) (List.mem_of_getElem? (i := 1) rfl)
    obtain rfl : [rI x1, rI x2, rI x3, rI x4] = w := Option.some.inj (show some [rI x1, rI x2, rI x3, rI x4] = some w from e6)
    exact (rF_b (r := 2564) (by decide) rfl).mp e7
  have f1 := ro_160.mp f1
  have f2 : rB K n p 413 [rI x1, rI x12] σ := by
    obtain ⟨w, e6, e7⟩ := m4 (6610, [1, 12]) (List.mem_of_getElem? (i := 2) rfl)
    obtain rfl : [rI x1, rI x12] = w := Option.some.inj (show some [rI x1, rI x12] = some w from e6)
    exact (rF_b (r := 6610) (by decide) rfl).mp e7
  have f2 := ro_413.mp f2
  have f3 : rB K n p 417 [rI x5] σ := by
    obtain ⟨w, e6, e7⟩ := m4 (6673, [5]) (List.mem_of_getElem? (i := 3) rfl)
    obtain rfl : [rI x5] = w := Option.some.inj (show some [rI x5] = some w from e6)
    exact (rF_b (r := 6673) (by decide) rfl).mp e7
  have f3 := ro_417.mp f3
  have f4 : rB K n p 120 [rI x3, rI x6, rI x7, rI x8] σ := by
    obtain ⟨w, e6, e7⟩ := m4 (1924, [3, 6, 7, 8]) (List.mem_of_getElem? (i := 4) rfl)
    obtain rfl : [rI x3, rI x6, rI x7, rI x8] = w := Option.some.inj (show some [rI x3, rI x6, rI x7, rI x8] = some w from e6)
    exact (rF_b (r := 1924) (by decide) rfl).mp e7
  have f4 := ro_120.mp f4
  have f5 : rB K n p 200 [rR x0, rI x8, rI x9, rI x10] σ := by
    obtain ⟨w, e6, e7⟩ := m4 (3204, [0, 8, 9, 10]) (List.mem_of_getElem? (i := 5) rfl)
    obtain rfl : [rR x0, rI x8, rI x9, rI x10] = w := Option.some.inj (show some [rR x0, rI x8, rI x9, rI x10] = some w from e6)
    exact (rF_b (r := 3204) (by decide) rfl).mp e7
  obtain ⟨M9, h9, f5⟩ := ro_200.mp f5
  obtain rfl := rMg_u hT h9
  clear h9
  clear m1 m2 m3 m4
  have q0 : rB K n p 415 [rI x1, rI x11] σ := ro_415.mpr (by
    have hn : rNbr (rV3 p.1 x1.toInt) (rTo x1.toInt) (1) (1 + 8 * (1 - p.1.2.1)) := by
      unfold rNbr
      rw [← f0.2, ← f1.2.1, show rSp x3.toInt (1) 0 = x8.toInt by rw [f4, show x6.toInt = 1 by omega, show x7.toInt = 0 by omega]]
      omega
    unfold rVp
    rw [if_pos ⟨⟨by omega, by rw [← f1.1, ← f1.2.1]; omega⟩, Or.inr hn⟩, ← f1.1, ← f1.2.1]
    omega)
  exact ⟨p, fun _ => rfl, ⟨(fun q h => by cases h), fun q h => (by cases h), (fun f h => by cases h), (aAllc ⟨_, rfl, (rF_b (r := 6642) (by decide) rfl).mpr q0⟩ (fun f h => by cases h))⟩, [], List.mem_cons_self, fun f h => (by cases h)⟩
theorem rw_rwNnu {K : Nat → Nat} {n : Nat} {JX : (Nat → jcell) → Prop} : aGho (rF K n) fa_T K n JX ag_rwNnu := by
  refine aGho_of ⟨rfl, rfl⟩ ?_
  intro p σ ρ hH hX hA hM0
  have hG := aAG_of hA.1 (fun i e v he hv => (hA.2 i e v he hv).1)
  clear hA
  obtain ⟨v0, v1, v2, v3, v4, v5, v6, v7, v8, v9, v10, v11, v12, rfl, g0, g1, g2, g3, g4, g5, g6, g7, g8, g9, g10, g11, g12⟩ := rA_13 hG
  clear hG
  obtain ⟨x0, rfl, b0, d0⟩ := rG_ref (by decide) g0
  obtain ⟨x1, rfl, b1, d1⟩ := aG_int g1
  dsimp only at b1 d1
  obtain ⟨x2, rfl, b2, d2⟩ := aG_int g2
  dsimp only at b2 d2
  obtain ⟨x3, rfl, b3, d3⟩ := aG_int g3
  dsimp only at b3 d3
  obtain ⟨x4, rfl, b4, d4⟩ := aG_int g4
  dsimp only at b4 d4
  obtain ⟨x5, rfl, b5, d5⟩ := aG_int g5
  dsimp only at b5 d5
  obtain ⟨x6, rfl, b6, d6⟩ := aG_int g6
  dsimp only at b6 d6
  obtain ⟨x7, rfl, b7, d7⟩ := aG_int g7
  dsimp only at b7 d7
  obtain ⟨x8, rfl, b8, d8⟩ := aG_int g8
  dsimp only at b8 d8
  obtain ⟨x9, rfl, b9, d9⟩ := aG_int g9
  dsimp only at b9 d9
  obtain ⟨x10, rfl, b10, d10⟩ := aG_int g10
  dsimp only at b10 d10
  obtain ⟨x11, rfl, b11, d11⟩ := aG_int g11
  dsimp only at b11 d11
  obtain ⟨x12, rfl, b12, d12⟩ := aG_int g12
  dsimp only at b12 d12
  obtain ⟨m1, m2, m3, m4⟩ := hM0
  obtain ⟨T, hT⟩ := rTe_ex hH b0 d0
  have l0 : 0 ≤ (1 * x3.toInt + (-1 * x2.toInt + 0)) + -16 := by
    obtain ⟨z, e6, e7⟩ := m3 ([(3, 1), (2, -1)], -16) (List.mem_of_getElem? (i := 0) rfl)
    obtain rfl : (1 * x3.toInt + (-1 * x2.toInt + 0)) = z := Option.some.inj (show some (1 * x3.toInt + (-1 * x2.toInt + 0)) = some z from e6)
    exact e7
  have l1 : 0 ≤ (-1 * x3.toInt + (1 * x2.toInt + 0)) + 16 := by
    obtain ⟨z, e6, e7⟩ := m3 ([(3, -1), (2, 1)], 16) (List.mem_of_getElem? (i := 1) rfl)
    obtain rfl : (-1 * x3.toInt + (1 * x2.toInt + 0)) = z := Option.some.inj (show some (-1 * x3.toInt + (1 * x2.toInt + 0)) = some z from e6)
    exact e7
  have l2 : 0 ≤ (1 * x9.toInt + (8 * x5.toInt + 0)) + -9 := by
    obtain ⟨z, e6, e7⟩ := m3 ([(9, 1), (5, 8)], -9) (List.mem_of_getElem? (i := 2) rfl)
    obtain rfl : (1 * x9.toInt + (8 * x5.toInt + 0)) = z := Option.some.inj (show some (1 * x9.toInt + (8 * x5.toInt + 0)) = some z from e6)
    exact e7
  have l3 : 0 ≤ (-1 * x9.toInt + (-8 * x5.toInt + 0)) + 9 := by
    obtain ⟨z, e6, e7⟩ := m3 ([(9, -1), (5, -8)], 9) (List.mem_of_getElem? (i := 3) rfl)
    obtain rfl : (-1 * x9.toInt + (-8 * x5.toInt + 0)) = z := Option.some.inj (show some (-1 * x9.toInt + (-8 * x5.toInt + 0)) = some z from e6)
    exact e7
  have f0 : rB K n p 409 [rR x0, rI x1] σ := by
    obtain ⟨w, e6, e7⟩ := m4 (6546, [0, 1]) (List.mem_of_getElem? (i := 0) rfl)
    obtain rfl : [rR x0, rI x1] = w := Option.some.inj (show some [rR x0, rI x1] = some w from e6)
    exact (rF_b (r := 6546) (by decide) rfl).mp e7
  obtain ⟨M9, h9, f0⟩ := ro_409.mp f0
  obtain rfl := rMg_u hT h9
  clear h9
  have f1 : rB K n p 160 [rI x1, rI x2, rI x3, rI x4] σ := by
    obtain ⟨w, e6, e7⟩ := m4 (2564, [1, 2, 3, 4]) (List.mem_of_getElem? (i := 1) rfl)
    obtain rfl : [rI x1, rI x2, rI x3, rI x4] = w := Option.some.inj (show some [rI x1, rI x2, rI x3, rI x4] = some w from e6)
    exact (rF_b (r := 2564) (by decide) rfl).mp e7
  have f1 := ro_160.mp f1
  have f2 : rB K n p 413 [rI x1, rI x12] σ := by
    obtain ⟨w, e6, e7⟩ := m4 (6610, [1, 12]) (List.mem_of_getElem? (i := 2) rfl)
    obtain rfl : [rI x1, rI x12] = w := Option.some.inj (show some [rI x1, rI x12] = some w from e6)
    exact (rF_b (r := 6610) (by decide) rfl).mp e7
  have f2 := ro_413.mp f2
  have f3 : rB K n p 417 [rI x5] σ := by
    obtain ⟨w, e6, e7⟩ := m4 (6673, [5]) (List.mem_of_getElem? (i := 3) rfl)
    obtain rfl : [rI x5] = w := Option.some.inj (show some [rI x5] = some w from e6)
    exact (rF_b (r := 6673) (by decide) rfl).mp e7
  have f3 := ro_417.mp f3
  have f4 : rB K n p 416 [rI x1] σ := by
    obtain ⟨w, e6, e7⟩ := m4 (6657, [1]) (List.mem_of_getElem? (i := 4) rfl)
    obtain rfl : [rI x1] = w := Option.some.inj (show some [rI x1] = some w from e6)
    exact (rF_b (r := 6657) (by decide) rfl).mp e7
  have f4 := ro_416.mp f4
  have f5 : rB K n p 120 [rI x3, rI x6, rI x7, rI x8] σ := by
    obtain ⟨w, e6, e7⟩ := m4 (1924, [3, 6, 7, 8]) (List.mem_of_getElem? (i := 5) rfl)
    obtain rfl : [rI x3, rI x6, rI x7, rI x8] = w := Option.some.inj (show some [rI x3, rI x6, rI x7, rI x8] = some w from e6)
    exact (rF_b (r := 1924) (by decide) rfl).mp e7
  have f5 := ro_120.mp f5
  have f6 : rB K n p 200 [rR x0, rI x8, rI x9, rI x10] σ := by
    obtain ⟨w, e6, e7⟩ := m4 (3204, [0, 8, 9, 10]) (List.mem_of_getElem? (i := 6) rfl)
    obtain rfl : [rR x0, rI x8, rI x9, rI x10] = w := Option.some.inj (show some [rR x0, rI x8, rI x9, rI x10] = some w from e6)
    exact (rF_b (r := 3204) (by decide) rfl).mp e7
  obtain ⟨M9, h9, f6⟩ := ro_200.mp f6
  obtain rfl := rMg_u hT h9
  clear h9
  clear m1 m2 m3 m4
  have q0 : rB K n p 415 [rI x1, rI x11] σ := ro_415.mpr (by
    have hn : ¬ rNbr (rV3 p.1 x1.toInt) (rTo x1.toInt) 1 (1 + 8 * (1 - p.1.2.1)) := by
      unfold rNbr
      rw [← f0.2, ← f1.2.1, show rSp x3.toInt 1 0 = x8.toInt by rw [f5, show x6.toInt = 1 by omega, show x7.toInt = 0 by omega]]
      omega
    unfold rVp
    rw [if_neg (fun h => h.2.elim f4 hn)]
    omega)
  exact ⟨p, fun _ => rfl, ⟨(fun q h => by cases h), fun q h => (by cases h), (fun f h => by cases h), (aAllc ⟨_, rfl, (rF_b (r := 6642) (by decide) rfl).mpr q0⟩ (fun f h => by cases h))⟩, [], List.mem_cons_self, fun f h => (by cases h)⟩
theorem rw_rwNyld {K : Nat → Nat} {n : Nat} {JX : (Nat → jcell) → Prop} : aGho (rF K n) fa_T K n JX ag_rwNyld := by
  refine aGho_of ⟨rfl, rfl⟩ ?_
  intro p σ ρ hH hX hA hM0
  have hG := aAG_of hA.1 (fun i e v he hv => (hA.2 i e v he hv).1)
  clear hA
  obtain ⟨v0, v1, v2, v3, v4, v5, v6, v7, v8, v9, v10, v11, v12, rfl, g0, g1, g2, g3, g4, g5, g6, g7, g8, g9, g10, g11, g12⟩ := rA_13 hG
  clear hG
  obtain ⟨x0, rfl, b0, d0⟩ := rG_ref (by decide) g0
  obtain ⟨x1, rfl, b1, d1⟩ := aG_int g1
  dsimp only at b1 d1
  obtain ⟨x2, rfl, b2, d2⟩ := aG_int g2
  dsimp only at b2 d2
  obtain ⟨x3, rfl, b3, d3⟩ := aG_int g3
  dsimp only at b3 d3
  obtain ⟨x4, rfl, b4, d4⟩ := aG_int g4
  dsimp only at b4 d4
  obtain ⟨x5, rfl, b5, d5⟩ := aG_int g5
  dsimp only at b5 d5
  obtain ⟨x6, rfl, b6, d6⟩ := aG_int g6
  dsimp only at b6 d6
  obtain ⟨x7, rfl, b7, d7⟩ := aG_int g7
  dsimp only at b7 d7
  obtain ⟨x8, rfl, b8, d8⟩ := aG_int g8
  dsimp only at b8 d8
  obtain ⟨x9, rfl, b9, d9⟩ := aG_int g9
  dsimp only at b9 d9
  obtain ⟨x10, rfl, b10, d10⟩ := aG_int g10
  dsimp only at b10 d10
  obtain ⟨x11, rfl, b11, d11⟩ := aG_int g11
  dsimp only at b11 d11
  obtain ⟨x12, rfl, b12, d12⟩ := aG_int g12
  dsimp only at b12 d12
  obtain ⟨m1, m2, m3, m4⟩ := hM0
  obtain ⟨T, hT⟩ := rTe_ex hH b0 d0
  have l0 : 0 ≤ (1 * x3.toInt + (-1 * x2.toInt + 0)) + 16 := by
    obtain ⟨z, e6, e7⟩ := m3 ([(3, 1), (2, -1)], 16) (List.mem_of_getElem? (i := 0) rfl)
    obtain rfl : (1 * x3.toInt + (-1 * x2.toInt + 0)) = z := Option.some.inj (show some (1 * x3.toInt + (-1 * x2.toInt + 0)) = some z from e6)
    exact e7
  have l1 : 0 ≤ (-1 * x3.toInt + (1 * x2.toInt + 0)) + -16 := by
    obtain ⟨z, e6, e7⟩ := m3 ([(3, -1), (2, 1)], -16) (List.mem_of_getElem? (i := 1) rfl)
    obtain rfl : (-1 * x3.toInt + (1 * x2.toInt + 0)) = z := Option.some.inj (show some (-1 * x3.toInt + (1 * x2.toInt + 0)) = some z from e6)
    exact e7
  have l2 : 0 ≤ (1 * x9.toInt + (8 * x5.toInt + 0)) + -9 := by
    obtain ⟨z, e6, e7⟩ := m3 ([(9, 1), (5, 8)], -9) (List.mem_of_getElem? (i := 2) rfl)
    obtain rfl : (1 * x9.toInt + (8 * x5.toInt + 0)) = z := Option.some.inj (show some (1 * x9.toInt + (8 * x5.toInt + 0)) = some z from e6)
    exact e7
  have l3 : 0 ≤ (-1 * x9.toInt + (-8 * x5.toInt + 0)) + 9 := by
    obtain ⟨z, e6, e7⟩ := m3 ([(9, -1), (5, -8)], 9) (List.mem_of_getElem? (i := 3) rfl)
    obtain rfl : (-1 * x9.toInt + (-8 * x5.toInt + 0)) = z := Option.some.inj (show some (-1 * x9.toInt + (-8 * x5.toInt + 0)) = some z from e6)
    exact e7
  have l4 : 0 ≤ (1 * x2.toInt + (1 * x3.toInt + (-2 * x11.toInt + 0))) + 0 := by
    obtain ⟨z, e6, e7⟩ := m3 ([(2, 1), (3, 1), (11, -2)], 0) (List.mem_of_getElem? (i := 4) rfl)
    obtain rfl : (1 * x2.toInt + (1 * x3.toInt + (-2 * x11.toInt + 0))) = z := Option.some.inj (show some (1 * x2.toInt + (1 * x3.toInt + (-2 * x11.toInt + 0))) = some z from e6)
    exact e7
  have l5 : 0 ≤ (-1 * x2.toInt + (-1 * x3.toInt + (2 * x11.toInt + 0))) + 1 := by
    obtain ⟨z, e6, e7⟩ := m3 ([(2, -1), (3, -1), (11, 2)], 1) (List.mem_of_getElem? (i := 5) rfl)
    obtain rfl : (-1 * x2.toInt + (-1 * x3.toInt + (2 * x11.toInt + 0))) = z := Option.some.inj (show some (-1 * x2.toInt + (-1 * x3.toInt + (2 * x11.toInt + 0))) = some z from e6)
    exact e7
  have f0 : rB K n p 409 [rR x0, rI x1] σ := by
    obtain ⟨w, e6, e7⟩ := m4 (6546, [0, 1]) (List.mem_of_getElem? (i := 0) rfl)
    obtain rfl : [rR x0, rI x1] = w := Option.some.inj (show some [rR x0, rI x1] = some w from e6)
    exact (rF_b (r := 6546) (by decide) rfl).mp e7
  obtain ⟨M9, h9, f0⟩ := ro_409.mp f0
  obtain rfl := rMg_u hT h9
  clear h9
  have f1 : rB K n p 160 [rI x1, rI x2, rI x3, rI x4] σ := by
    obtain ⟨w, e6, e7⟩ := m4 (2564, [1, 2, 3, 4]) (List.mem_of_getElem? (i := 1) rfl)
    obtain rfl : [rI x1, rI x2, rI x3, rI x4] = w := Option.some.inj (show some [rI x1, rI x2, rI x3, rI x4] = some w from e6)
    exact (rF_b (r := 2564) (by decide) rfl).mp e7
  have f1 := ro_160.mp f1
  have f2 : rB K n p 413 [rI x1, rI x12] σ := by
    obtain ⟨w, e6, e7⟩ := m4 (6610, [1, 12]) (List.mem_of_getElem? (i := 2) rfl)
    obtain rfl : [rI x1, rI x12] = w := Option.some.inj (show some [rI x1, rI x12] = some w from e6)
    exact (rF_b (r := 6610) (by decide) rfl).mp e7
  have f2 := ro_413.mp f2
  have f3 : rB K n p 417 [rI x5] σ := by
    obtain ⟨w, e6, e7⟩ := m4 (6673, [5]) (List.mem_of_getElem? (i := 3) rfl)
    obtain rfl : [rI x5] = w := Option.some.inj (show some [rI x5] = some w from e6)
    exact (rF_b (r := 6673) (by decide) rfl).mp e7
  have f3 := ro_417.mp f3
  have f4 : rB K n p 120 [rI x3, rI x6, rI x7, rI x8] σ := by
    obtain ⟨w, e6, e7⟩ := m4 (1924, [3, 6, 7, 8]) (List.mem_of_getElem? (i := 4) rfl)
    obtain rfl : [rI x3, rI x6, rI x7, rI x8] = w := Option.some.inj (show some [rI x3, rI x6, rI x7, rI x8] = some w from e6)
    exact (rF_b (r := 1924) (by decide) rfl).mp e7
  have f4 := ro_120.mp f4
  have f5 : rB K n p 200 [rR x0, rI x8, rI x9, rI x10] σ := by
    obtain ⟨w, e6, e7⟩ := m4 (3204, [0, 8, 9, 10]) (List.mem_of_getElem? (i := 5) rfl)
    obtain rfl : [rR x0, rI x8, rI x9, rI x10] = w := Option.some.inj (show some [rR x0, rI x8, rI x9, rI x10] = some w from e6)
    exact (rF_b (r := 3204) (by decide) rfl).mp e7
  obtain ⟨M9, h9, f5⟩ := ro_200.mp f5
  obtain rfl := rMg_u hT h9
  clear h9
  clear m1 m2 m3 m4
  have q0 : rB K n p 415 [rI x1, rI x11] σ := ro_415.mpr (by
    have hn : rNbr (rV3 p.1 x1.toInt) (rTo x1.toInt) (-1) (1 + 8 * (1 - p.1.2.1)) := by
      unfold rNbr
      rw [← f0.2, ← f1.2.1, show rSp x3.toInt (-1) 0 = x8.toInt by rw [f4, show x6.toInt = -1 by omega, show x7.toInt = 0 by omega]]
      omega
    unfold rVp
    rw [if_pos ⟨⟨by omega, by rw [← f1.1, ← f1.2.1]; omega⟩, Or.inl hn⟩, ← f1.1, ← f1.2.1]
    omega)
  exact ⟨p, fun _ => rfl, ⟨(fun q h => by cases h), fun q h => (by cases h), (fun f h => by cases h), (aAllc ⟨_, rfl, (rF_b (r := 6642) (by decide) rfl).mpr q0⟩ (fun f h => by cases h))⟩, [], List.mem_cons_self, fun f h => (by cases h)⟩
theorem rw_rwNyrd {K : Nat → Nat} {n : Nat} {JX : (Nat → jcell) → Prop} : aGho (rF K n) fa_T K n JX ag_rwNyrd := by
  refine aGho_of ⟨rfl, rfl⟩ ?_
  intro p σ ρ hH hX hA hM0
  have hG := aAG_of hA.1 (fun i e v he hv => (hA.2 i e v he hv).1)
  clear hA
  obtain ⟨v0, v1, v2, v3, v4, v5, v6, v7, v8, v9, v10, v11, v12, rfl, g0, g1, g2, g3, g4, g5, g6, g7, g8, g9, g10, g11, g12⟩ := rA_13 hG
  clear hG
  obtain ⟨x0, rfl, b0, d0⟩ := rG_ref (by decide) g0
  obtain ⟨x1, rfl, b1, d1⟩ := aG_int g1
  dsimp only at b1 d1
  obtain ⟨x2, rfl, b2, d2⟩ := aG_int g2
  dsimp only at b2 d2
  obtain ⟨x3, rfl, b3, d3⟩ := aG_int g3
  dsimp only at b3 d3
  obtain ⟨x4, rfl, b4, d4⟩ := aG_int g4
  dsimp only at b4 d4
  obtain ⟨x5, rfl, b5, d5⟩ := aG_int g5
  dsimp only at b5 d5
  obtain ⟨x6, rfl, b6, d6⟩ := aG_int g6
  dsimp only at b6 d6
  obtain ⟨x7, rfl, b7, d7⟩ := aG_int g7
  dsimp only at b7 d7
  obtain ⟨x8, rfl, b8, d8⟩ := aG_int g8
  dsimp only at b8 d8
  obtain ⟨x9, rfl, b9, d9⟩ := aG_int g9
  dsimp only at b9 d9
  obtain ⟨x10, rfl, b10, d10⟩ := aG_int g10
  dsimp only at b10 d10
  obtain ⟨x11, rfl, b11, d11⟩ := aG_int g11
  dsimp only at b11 d11
  obtain ⟨x12, rfl, b12, d12⟩ := aG_int g12
  dsimp only at b12 d12
  obtain ⟨m1, m2, m3, m4⟩ := hM0
  obtain ⟨T, hT⟩ := rTe_ex hH b0 d0
  have l0 : 0 ≤ (1 * x3.toInt + (-1 * x2.toInt + 0)) + 16 := by
    obtain ⟨z, e6, e7⟩ := m3 ([(3, 1), (2, -1)], 16) (List.mem_of_getElem? (i := 0) rfl)
    obtain rfl : (1 * x3.toInt + (-1 * x2.toInt + 0)) = z := Option.some.inj (show some (1 * x3.toInt + (-1 * x2.toInt + 0)) = some z from e6)
    exact e7
  have l1 : 0 ≤ (-1 * x3.toInt + (1 * x2.toInt + 0)) + -16 := by
    obtain ⟨z, e6, e7⟩ := m3 ([(3, -1), (2, 1)], -16) (List.mem_of_getElem? (i := 1) rfl)
    obtain rfl : (-1 * x3.toInt + (1 * x2.toInt + 0)) = z := Option.some.inj (show some (-1 * x3.toInt + (1 * x2.toInt + 0)) = some z from e6)
    exact e7
  have l2 : 0 ≤ (1 * x9.toInt + (8 * x5.toInt + 0)) + -9 := by
    obtain ⟨z, e6, e7⟩ := m3 ([(9, 1), (5, 8)], -9) (List.mem_of_getElem? (i := 2) rfl)
    obtain rfl : (1 * x9.toInt + (8 * x5.toInt + 0)) = z := Option.some.inj (show some (1 * x9.toInt + (8 * x5.toInt + 0)) = some z from e6)
    exact e7
  have l3 : 0 ≤ (-1 * x9.toInt + (-8 * x5.toInt + 0)) + 9 := by
    obtain ⟨z, e6, e7⟩ := m3 ([(9, -1), (5, -8)], 9) (List.mem_of_getElem? (i := 3) rfl)
    obtain rfl : (-1 * x9.toInt + (-8 * x5.toInt + 0)) = z := Option.some.inj (show some (-1 * x9.toInt + (-8 * x5.toInt + 0)) = some z from e6)
    exact e7
  have l4 : 0 ≤ (1 * x2.toInt + (1 * x3.toInt + (-2 * x11.toInt + 0))) + 0 := by
    obtain ⟨z, e6, e7⟩ := m3 ([(2, 1), (3, 1), (11, -2)], 0) (List.mem_of_getElem? (i := 4) rfl)
    obtain rfl : (1 * x2.toInt + (1 * x3.toInt + (-2 * x11.toInt + 0))) = z := Option.some.inj (show some (1 * x2.toInt + (1 * x3.toInt + (-2 * x11.toInt + 0))) = some z from e6)
    exact e7
  have l5 : 0 ≤ (-1 * x2.toInt + (-1 * x3.toInt + (2 * x11.toInt + 0))) + 1 := by
    obtain ⟨z, e6, e7⟩ := m3 ([(2, -1), (3, -1), (11, 2)], 1) (List.mem_of_getElem? (i := 5) rfl)
    obtain rfl : (-1 * x2.toInt + (-1 * x3.toInt + (2 * x11.toInt + 0))) = z := Option.some.inj (show some (-1 * x2.toInt + (-1 * x3.toInt + (2 * x11.toInt + 0))) = some z from e6)
    exact e7
  have f0 : rB K n p 409 [rR x0, rI x1] σ := by
    obtain ⟨w, e6, e7⟩ := m4 (6546, [0, 1]) (List.mem_of_getElem? (i := 0) rfl)
    obtain rfl : [rR x0, rI x1] = w := Option.some.inj (show some [rR x0, rI x1] = some w from e6)
    exact (rF_b (r := 6546) (by decide) rfl).mp e7
  obtain ⟨M9, h9, f0⟩ := ro_409.mp f0
  obtain rfl := rMg_u hT h9
  clear h9
  have f1 : rB K n p 160 [rI x1, rI x2, rI x3, rI x4] σ := by
    obtain ⟨w, e6, e7⟩ := m4 (2564, [1, 2, 3, 4]) (List.mem_of_getElem? (i := 1) rfl)
    obtain rfl : [rI x1, rI x2, rI x3, rI x4] = w := Option.some.inj (show some [rI x1, rI x2, rI x3, rI x4] = some w from e6)
    exact (rF_b (r := 2564) (by decide) rfl).mp e7
  have f1 := ro_160.mp f1
  have f2 : rB K n p 413 [rI x1, rI x12] σ := by
    obtain ⟨w, e6, e7⟩ := m4 (6610, [1, 12]) (List.mem_of_getElem? (i := 2) rfl)
    obtain rfl : [rI x1, rI x12] = w := Option.some.inj (show some [rI x1, rI x12] = some w from e6)
    exact (rF_b (r := 6610) (by decide) rfl).mp e7
  have f2 := ro_413.mp f2
  have f3 : rB K n p 417 [rI x5] σ := by
    obtain ⟨w, e6, e7⟩ := m4 (6673, [5]) (List.mem_of_getElem? (i := 3) rfl)
    obtain rfl : [rI x5] = w := Option.some.inj (show some [rI x5] = some w from e6)
    exact (rF_b (r := 6673) (by decide) rfl).mp e7
  have f3 := ro_417.mp f3
  have f4 : rB K n p 120 [rI x3, rI x6, rI x7, rI x8] σ := by
    obtain ⟨w, e6, e7⟩ := m4 (1924, [3, 6, 7, 8]) (List.mem_of_getElem? (i := 4) rfl)
    obtain rfl : [rI x3, rI x6, rI x7, rI x8] = w := Option.some.inj (show some [rI x3, rI x6, rI x7, rI x8] = some w from e6)
    exact (rF_b (r := 1924) (by decide) rfl).mp e7
  have f4 := ro_120.mp f4
  have f5 : rB K n p 200 [rR x0, rI x8, rI x9, rI x10] σ := by
    obtain ⟨w, e6, e7⟩ := m4 (3204, [0, 8, 9, 10]) (List.mem_of_getElem? (i := 5) rfl)
    obtain rfl : [rR x0, rI x8, rI x9, rI x10] = w := Option.some.inj (show some [rR x0, rI x8, rI x9, rI x10] = some w from e6)
    exact (rF_b (r := 3204) (by decide) rfl).mp e7
  obtain ⟨M9, h9, f5⟩ := ro_200.mp f5
  obtain rfl := rMg_u hT h9
  clear h9
  clear m1 m2 m3 m4
  have q0 : rB K n p 415 [rI x1, rI x11] σ := ro_415.mpr (by
    have hn : rNbr (rV3 p.1 x1.toInt) (rTo x1.toInt) (1) (1 + 8 * (1 - p.1.2.1)) := by
      unfold rNbr
      rw [← f0.2, ← f1.2.1, show rSp x3.toInt (1) 0 = x8.toInt by rw [f4, show x6.toInt = 1 by omega, show x7.toInt = 0 by omega]]
      omega
    unfold rVp
    rw [if_pos ⟨⟨by omega, by rw [← f1.1, ← f1.2.1]; omega⟩, Or.inr hn⟩, ← f1.1, ← f1.2.1]
    omega)
  exact ⟨p, fun _ => rfl, ⟨(fun q h => by cases h), fun q h => (by cases h), (fun f h => by cases h), (aAllc ⟨_, rfl, (rF_b (r := 6642) (by decide) rfl).mpr q0⟩ (fun f h => by cases h))⟩, [], List.mem_cons_self, fun f h => (by cases h)⟩
theorem rw_rwNnd {K : Nat → Nat} {n : Nat} {JX : (Nat → jcell) → Prop} : aGho (rF K n) fa_T K n JX ag_rwNnd := by
  refine aGho_of ⟨rfl, rfl⟩ ?_
  intro p σ ρ hH hX hA hM0
  have hG := aAG_of hA.1 (fun i e v he hv => (hA.2 i e v he hv).1)
  clear hA
  obtain ⟨v0, v1, v2, v3, v4, v5, v6, v7, v8, v9, v10, v11, v12, rfl, g0, g1, g2, g3, g4, g5, g6, g7, g8, g9, g10, g11, g12⟩ := rA_13 hG
  clear hG
  obtain ⟨x0, rfl, b0, d0⟩ := rG_ref (by decide) g0
  obtain ⟨x1, rfl, b1, d1⟩ := aG_int g1
  dsimp only at b1 d1
  obtain ⟨x2, rfl, b2, d2⟩ := aG_int g2
  dsimp only at b2 d2
  obtain ⟨x3, rfl, b3, d3⟩ := aG_int g3
  dsimp only at b3 d3
  obtain ⟨x4, rfl, b4, d4⟩ := aG_int g4
  dsimp only at b4 d4
  obtain ⟨x5, rfl, b5, d5⟩ := aG_int g5
  dsimp only at b5 d5
  obtain ⟨x6, rfl, b6, d6⟩ := aG_int g6
  dsimp only at b6 d6
  obtain ⟨x7, rfl, b7, d7⟩ := aG_int g7
  dsimp only at b7 d7
  obtain ⟨x8, rfl, b8, d8⟩ := aG_int g8
  dsimp only at b8 d8
  obtain ⟨x9, rfl, b9, d9⟩ := aG_int g9
  dsimp only at b9 d9
  obtain ⟨x10, rfl, b10, d10⟩ := aG_int g10
  dsimp only at b10 d10
  obtain ⟨x11, rfl, b11, d11⟩ := aG_int g11
  dsimp only at b11 d11
  obtain ⟨x12, rfl, b12, d12⟩ := aG_int g12
  dsimp only at b12 d12
  obtain ⟨m1, m2, m3, m4⟩ := hM0
  obtain ⟨T, hT⟩ := rTe_ex hH b0 d0
  have l0 : 0 ≤ (1 * x3.toInt + (-1 * x2.toInt + 0)) + 16 := by
    obtain ⟨z, e6, e7⟩ := m3 ([(3, 1), (2, -1)], 16) (List.mem_of_getElem? (i := 0) rfl)
    obtain rfl : (1 * x3.toInt + (-1 * x2.toInt + 0)) = z := Option.some.inj (show some (1 * x3.toInt + (-1 * x2.toInt + 0)) = some z from e6)
    exact e7
  have l1 : 0 ≤ (-1 * x3.toInt + (1 * x2.toInt + 0)) + -16 := by
    obtain ⟨z, e6, e7⟩ := m3 ([(3, -1), (2, 1)], -16) (List.mem_of_getElem? (i := 1) rfl)
    obtain rfl : (-1 * x3.toInt + (1 * x2.toInt + 0)) = z := Option.some.inj (show some (-1 * x3.toInt + (1 * x2.toInt + 0)) = some z from e6)
    exact e7
  have l2 : 0 ≤ (1 * x9.toInt + (8 * x5.toInt + 0)) + -9 := by
    obtain ⟨z, e6, e7⟩ := m3 ([(9, 1), (5, 8)], -9) (List.mem_of_getElem? (i := 2) rfl)
    obtain rfl : (1 * x9.toInt + (8 * x5.toInt + 0)) = z := Option.some.inj (show some (1 * x9.toInt + (8 * x5.toInt + 0)) = some z from e6)
    exact e7
  have l3 : 0 ≤ (-1 * x9.toInt + (-8 * x5.toInt + 0)) + 9 := by
    obtain ⟨z, e6, e7⟩ := m3 ([(9, -1), (5, -8)], 9) (List.mem_of_getElem? (i := 3) rfl)
    obtain rfl : (-1 * x9.toInt + (-8 * x5.toInt + 0)) = z := Option.some.inj (show some (-1 * x9.toInt + (-8 * x5.toInt + 0)) = some z from e6)
    exact e7
  have f0 : rB K n p 409 [rR x0, rI x1] σ := by
    obtain ⟨w, e6, e7⟩ := m4 (6546, [0, 1]) (List.mem_of_getElem? (i := 0) rfl)
    obtain rfl : [rR x0, rI x1] = w := Option.some.inj (show some [rR x0, rI x1] = some w from e6)
    exact (rF_b (r := 6546) (by decide) rfl).mp e7
  obtain ⟨M9, h9, f0⟩ := ro_409.mp f0
  obtain rfl := rMg_u hT h9
  clear h9
  have f1 : rB K n p 160 [rI x1, rI x2, rI x3, rI x4] σ := by
    obtain ⟨w, e6, e7⟩ := m4 (2564, [1, 2, 3, 4]) (List.mem_of_getElem? (i := 1) rfl)
    obtain rfl : [rI x1, rI x2, rI x3, rI x4] = w := Option.some.inj (show some [rI x1, rI x2, rI x3, rI x4] = some w from e6)
    exact (rF_b (r := 2564) (by decide) rfl).mp e7
  have f1 := ro_160.mp f1
  have f2 : rB K n p 413 [rI x1, rI x12] σ := by
    obtain ⟨w, e6, e7⟩ := m4 (6610, [1, 12]) (List.mem_of_getElem? (i := 2) rfl)
    obtain rfl : [rI x1, rI x12] = w := Option.some.inj (show some [rI x1, rI x12] = some w from e6)
    exact (rF_b (r := 6610) (by decide) rfl).mp e7
  have f2 := ro_413.mp f2
  have f3 : rB K n p 417 [rI x5] σ := by
    obtain ⟨w, e6, e7⟩ := m4 (6673, [5]) (List.mem_of_getElem? (i := 3) rfl)
    obtain rfl : [rI x5] = w := Option.some.inj (show some [rI x5] = some w from e6)
    exact (rF_b (r := 6673) (by decide) rfl).mp e7
  have f3 := ro_417.mp f3
  have f4 : rB K n p 416 [rI x1] σ := by
    obtain ⟨w, e6, e7⟩ := m4 (6657, [1]) (List.mem_of_getElem? (i := 4) rfl)
    obtain rfl : [rI x1] = w := Option.some.inj (show some [rI x1] = some w from e6)
    exact (rF_b (r := 6657) (by decide) rfl).mp e7
  have f4 := ro_416.mp f4
  have f5 : rB K n p 120 [rI x3, rI x6, rI x7, rI x8] σ := by
    obtain ⟨w, e6, e7⟩ := m4 (1924, [3, 6, 7, 8]) (List.mem_of_getElem? (i := 5) rfl)
    obtain rfl : [rI x3, rI x6, rI x7, rI x8] = w := Option.some.inj (show some [rI x3, rI x6, rI x7, rI x8] = some w from e6)
    exact (rF_b (r := 1924) (by decide) rfl).mp e7
  have f5 := ro_120.mp f5
  have f6 : rB K n p 200 [rR x0, rI x8, rI x9, rI x10] σ := by
    obtain ⟨w, e6, e7⟩ := m4 (3204, [0, 8, 9, 10]) (List.mem_of_getElem? (i := 6) rfl)
    obtain rfl : [rR x0, rI x8, rI x9, rI x10] = w := Option.some.inj (show some [rR x0, rI x8, rI x9, rI x10] = some w from e6)
    exact (rF_b (r := 3204) (by decide) rfl).mp e7
  obtain ⟨M9, h9, f6⟩ := ro_200.mp f6
  obtain rfl := rMg_u hT h9
  clear h9
  clear m1 m2 m3 m4
  have q0 : rB K n p 415 [rI x1, rI x11] σ := ro_415.mpr (by
    have hn : ¬ rNbr (rV3 p.1 x1.toInt) (rTo x1.toInt) 1 (1 + 8 * (1 - p.1.2.1)) := by
      unfold rNbr
      rw [← f0.2, ← f1.2.1, show rSp x3.toInt 1 0 = x8.toInt by rw [f5, show x6.toInt = 1 by omega, show x7.toInt = 0 by omega]]
      omega
    unfold rVp
    rw [if_neg (fun h => h.2.elim f4 hn)]
    omega)
  exact ⟨p, fun _ => rfl, ⟨(fun q h => by cases h), fun q h => (by cases h), (fun f h => by cases h), (aAllc ⟨_, rfl, (rF_b (r := 6642) (by decide) rfl).mpr q0⟩ (fun f h => by cases h))⟩, [], List.mem_cons_self, fun f h => (by cases h)⟩
theorem rw_rwNH {K : Nat → Nat} {n : Nat} {JX : (Nat → jcell) → Prop} : aGho (rF K n) fa_T K n JX ag_rwNH := by
  refine aGho_of ⟨rfl, rfl⟩ ?_
  intro p σ ρ hH hX hA hM0
  have hG := aAG_of hA.1 (fun i e v he hv => (hA.2 i e v he hv).1)
  clear hA
  obtain ⟨v0, v1, v2, v3, v4, v5, v6, v7, v8, v9, v10, rfl, g0, g1, g2, g3, g4, g5, g6, g7, g8, g9, g10⟩ := rA_11 hG
  clear hG
  obtain ⟨x0, rfl, b0, d0⟩ := rG_ref (by decide) g0
  obtain ⟨x1, rfl, b1, d1⟩ := aG_int g1
  dsimp only at b1 d1
  obtain ⟨x2, rfl, b2, d2⟩ := aG_int g2
  dsimp only at b2 d2
  obtain ⟨x3, rfl, b3, d3⟩ := aG_int g3
  dsimp only at b3 d3
  obtain ⟨x4, rfl, b4, d4⟩ := aG_int g4
  dsimp only at b4 d4
  obtain ⟨x5, rfl, b5, d5⟩ := aG_int g5
  dsimp only at b5 d5
  obtain ⟨x6, rfl, b6, d6⟩ := aG_int g6
  dsimp only at b6 d6
  obtain ⟨x7, rfl, b7, d7⟩ := aG_int g7
  dsimp only at b7 d7
  obtain ⟨x8, rfl, b8, d8⟩ := aG_int g8
  dsimp only at b8 d8
  obtain ⟨x9, rfl, b9, d9⟩ := aG_int g9
  dsimp only at b9 d9
  obtain ⟨x10, rfl, b10, d10⟩ := aG_int g10
  dsimp only at b10 d10
  obtain ⟨m1, m2, m3, m4⟩ := hM0
  obtain ⟨T, hT⟩ := rTe_ex hH b0 d0
  have l0 : 0 ≤ (1 * x9.toInt + (8 * x5.toInt + 0)) + -9 := by
    obtain ⟨z, e6, e7⟩ := m3 ([(9, 1), (5, 8)], -9) (List.mem_of_getElem? (i := 0) rfl)
    obtain rfl : (1 * x9.toInt + (8 * x5.toInt + 0)) = z := Option.some.inj (show some (1 * x9.toInt + (8 * x5.toInt + 0)) = some z from e6)
    exact e7
  have l1 : 0 ≤ (-1 * x9.toInt + (-8 * x5.toInt + 0)) + 9 := by
    obtain ⟨z, e6, e7⟩ := m3 ([(9, -1), (5, -8)], 9) (List.mem_of_getElem? (i := 1) rfl)
    obtain rfl : (-1 * x9.toInt + (-8 * x5.toInt + 0)) = z := Option.some.inj (show some (-1 * x9.toInt + (-8 * x5.toInt + 0)) = some z from e6)
    exact e7
  have f0 : rB K n p 409 [rR x0, rI x1] σ := by
    obtain ⟨w, e6, e7⟩ := m4 (6546, [0, 1]) (List.mem_of_getElem? (i := 0) rfl)
    obtain rfl : [rR x0, rI x1] = w := Option.some.inj (show some [rR x0, rI x1] = some w from e6)
    exact (rF_b (r := 6546) (by decide) rfl).mp e7
  obtain ⟨M9, h9, f0⟩ := ro_409.mp f0
  obtain rfl := rMg_u hT h9
  clear h9
  have f1 : rB K n p 160 [rI x1, rI x2, rI x3, rI x4] σ := by
    obtain ⟨w, e6, e7⟩ := m4 (2564, [1, 2, 3, 4]) (List.mem_of_getElem? (i := 1) rfl)
    obtain rfl : [rI x1, rI x2, rI x3, rI x4] = w := Option.some.inj (show some [rI x1, rI x2, rI x3, rI x4] = some w from e6)
    exact (rF_b (r := 2564) (by decide) rfl).mp e7
  have f1 := ro_160.mp f1
  have f2 : rB K n p 417 [rI x5] σ := by
    obtain ⟨w, e6, e7⟩ := m4 (6673, [5]) (List.mem_of_getElem? (i := 2) rfl)
    obtain rfl : [rI x5] = w := Option.some.inj (show some [rI x5] = some w from e6)
    exact (rF_b (r := 6673) (by decide) rfl).mp e7
  have f2 := ro_417.mp f2
  have f3 : rB K n p 120 [rI x3, rI x6, rI x7, rI x8] σ := by
    obtain ⟨w, e6, e7⟩ := m4 (1924, [3, 6, 7, 8]) (List.mem_of_getElem? (i := 3) rfl)
    obtain rfl : [rI x3, rI x6, rI x7, rI x8] = w := Option.some.inj (show some [rI x3, rI x6, rI x7, rI x8] = some w from e6)
    exact (rF_b (r := 1924) (by decide) rfl).mp e7
  have f3 := ro_120.mp f3
  have f4 : rB K n p 200 [rR x0, rI x8, rI x9, rI x10] σ := by
    obtain ⟨w, e6, e7⟩ := m4 (3204, [0, 8, 9, 10]) (List.mem_of_getElem? (i := 4) rfl)
    obtain rfl : [rR x0, rI x8, rI x9, rI x10] = w := Option.some.inj (show some [rR x0, rI x8, rI x9, rI x10] = some w from e6)
    exact (rF_b (r := 3204) (by decide) rfl).mp e7
  obtain ⟨M9, h9, f4⟩ := ro_200.mp f4
  obtain rfl := rMg_u hT h9
  clear h9
  clear m1 m2 m3 m4
  have q0 : rB K n p 416 [rI x1] σ := ro_416.mpr (by
    unfold rNbr
    rw [← f0.2, ← f1.2.1, show rSp x3.toInt (-1) 0 = x8.toInt by rw [f3, show x6.toInt = -1 by omega, show x7.toInt = 0 by omega]]
    omega)
  exact ⟨p, fun _ => rfl, ⟨(fun q h => by cases h), fun q h => (by cases h), (fun f h => by cases h), (aAllc ⟨_, rfl, (rF_b (r := 6657) (by decide) rfl).mpr q0⟩ (fun f h => by cases h))⟩, [], List.mem_cons_self, fun f h => (by cases h)⟩
theorem rw_rwTM {K : Nat → Nat} {n : Nat} {JX : (Nat → jcell) → Prop} : aGho (rF K n) fa_T K n JX ag_rwTM := by
  refine aGho_of ⟨rfl, rfl⟩ ?_
  intro p σ ρ hH hX hA hM0
  have hG := aAG_of hA.1 (fun i e v he hv => (hA.2 i e v he hv).1)
  clear hA
  obtain ⟨v0, v1, v2, v3, v4, v5, rfl, g0, g1, g2, g3, g4, g5⟩ := rA_6 hG
  clear hG
  obtain ⟨x0, rfl, b0, d0⟩ := rG_ref (by decide) g0
  obtain ⟨x1, rfl, b1, d1⟩ := aG_int g1
  dsimp only at b1 d1
  obtain ⟨x2, rfl, b2, d2⟩ := aG_int g2
  dsimp only at b2 d2
  obtain ⟨x3, rfl, b3, d3⟩ := aG_int g3
  dsimp only at b3 d3
  obtain ⟨x4, rfl, b4, d4⟩ := aG_int g4
  dsimp only at b4 d4
  obtain ⟨x5, rfl, b5, d5⟩ := aG_int g5
  dsimp only at b5 d5
  obtain ⟨m1, m2, m3, m4⟩ := hM0
  obtain ⟨T, hT⟩ := rTe_ex hH b0 d0
  obtain ⟨a0, c0, fs0, w0, e1, s0, t0, e4⟩ := m1 (0, 25, 3) (List.mem_of_getElem? (i := 0) rfl)
  obtain rfl : x0 = a0 := Sum.inl.inj (Option.some.inj (Sum.inr.inj (Sum.inr.inj (Option.some.inj (show some (rR x0) = some _ from e1)))))
  obtain rfl : rI x3 = w0 := Option.some.inj (show some (rI x3) = some w0 from e4)
  clear e1 e4
  obtain ⟨a1, c1, fs1, w1, e1, s1, t1, e4⟩ := m1 (0, 26, 4) (List.mem_of_getElem? (i := 1) rfl)
  obtain rfl : x0 = a1 := Sum.inl.inj (Option.some.inj (Sum.inr.inj (Sum.inr.inj (Option.some.inj (show some (rR x0) = some _ from e1)))))
  obtain rfl : rI x4 = w1 := Option.some.inj (show some (rI x4) = some w1 from e4)
  clear e1 e4
  obtain ⟨a2, c2, fs2, w2, e1, s2, t2, e4⟩ := m1 (0, 27, 5) (List.mem_of_getElem? (i := 2) rfl)
  obtain rfl : x0 = a2 := Sum.inl.inj (Option.some.inj (Sum.inr.inj (Sum.inr.inj (Option.some.inj (show some (rR x0) = some _ from e1)))))
  obtain rfl : rI x5 = w2 := Option.some.inj (show some (rI x5) = some w2 from e4)
  clear e1 e4
  have l0 : 0 ≤ (1 * x2.toInt + (1 * x3.toInt + 0)) + -1 := by
    obtain ⟨z, e6, e7⟩ := m3 ([(2, 1), (3, 1)], -1) (List.mem_of_getElem? (i := 0) rfl)
    obtain rfl : (1 * x2.toInt + (1 * x3.toInt + 0)) = z := Option.some.inj (show some (1 * x2.toInt + (1 * x3.toInt + 0)) = some z from e6)
    exact e7
  have l1 : 0 ≤ (-1 * x2.toInt + (-1 * x3.toInt + 0)) + 1 := by
    obtain ⟨z, e6, e7⟩ := m3 ([(2, -1), (3, -1)], 1) (List.mem_of_getElem? (i := 1) rfl)
    obtain rfl : (-1 * x2.toInt + (-1 * x3.toInt + 0)) = z := Option.some.inj (show some (-1 * x2.toInt + (-1 * x3.toInt + 0)) = some z from e6)
    exact e7
  have f0 : rB K n p 409 [rR x0, rI x1] σ := by
    obtain ⟨w, e6, e7⟩ := m4 (6546, [0, 1]) (List.mem_of_getElem? (i := 0) rfl)
    obtain rfl : [rR x0, rI x1] = w := Option.some.inj (show some [rR x0, rI x1] = some w from e6)
    exact (rF_b (r := 6546) (by decide) rfl).mp e7
  obtain ⟨M9, h9, f0⟩ := ro_409.mp f0
  obtain rfl := rMg_u hT h9
  clear h9
  have f1 : rB K n p 417 [rI x2] σ := by
    obtain ⟨w, e6, e7⟩ := m4 (6673, [2]) (List.mem_of_getElem? (i := 1) rfl)
    obtain rfl : [rI x2] = w := Option.some.inj (show some [rI x2] = some w from e6)
    exact (rF_b (r := 6673) (by decide) rfl).mp e7
  have f1 := ro_417.mp f1
  have f2 : rB K n p 414 [rI x1, rI x4] σ := by
    obtain ⟨w, e6, e7⟩ := m4 (6626, [1, 4]) (List.mem_of_getElem? (i := 2) rfl)
    obtain rfl : [rI x1, rI x4] = w := Option.some.inj (show some [rI x1, rI x4] = some w from e6)
    exact (rF_b (r := 6626) (by decide) rfl).mp e7
  have f2 := ro_414.mp f2
  have f3 : rB K n p 415 [rI x1, rI x5] σ := by
    obtain ⟨w, e6, e7⟩ := m4 (6642, [1, 5]) (List.mem_of_getElem? (i := 3) rfl)
    obtain rfl : [rI x1, rI x5] = w := Option.some.inj (show some [rI x1, rI x5] = some w from e6)
    exact (rF_b (r := 6642) (by decide) rfl).mp e7
  have f3 := ro_415.mp f3
  clear m1 m2 m3 m4
  have q0 : rB K n p 411 [rR x0, rI x1] σ := ro_411.mpr (by
    refine ⟨f0.1, ?_, ⟨x3, ⟨b0, d0, _, _, s0, t0⟩, show x3.toInt = 1 - p.1.2.1 by omega⟩, ⟨x4, ⟨b0, d0, _, _, s1, t1⟩, f2⟩, ⟨x5, ⟨b0, d0, _, _, s2, t2⟩, f3⟩⟩
    have h := hT
    rw [f0.2] at h
    exact h)
  exact ⟨p, fun _ => rfl, ⟨(fun q h => by cases h), fun q h => (by cases h), (fun f h => by cases h), (aAllc ⟨_, rfl, (rF_b (r := 6578) (by decide) rfl).mpr q0⟩ (fun f h => by cases h))⟩, [], List.mem_cons_self, fun f h => (by cases h)⟩
theorem rw_rvTRv {K : Nat → Nat} {n : Nat} {JX : (Nat → jcell) → Prop} : aGho (rF K n) fa_T K n JX ag_rvTRv := by
  refine aGho_of ⟨rfl, rfl⟩ ?_
  intro p σ ρ hH hX hA hM0
  have hG := aAG_of hA.1 (fun i e v he hv => (hA.2 i e v he hv).1)
  clear hA
  obtain ⟨v0, rfl, g0⟩ := rA_1 hG
  clear hG
  obtain ⟨x0, rfl, b0, d0⟩ := aG_int g0
  dsimp only at b0 d0
  obtain ⟨m1, m2, m3, m4⟩ := hM0
  clear m1 m2 m3 m4
  have hd : (0 ≤ (1 * x0.toInt + 0) + 0 ∧ 0 ≤ (-1 * x0.toInt + 0) + 0) ∨ (0 ≤ (1 * x0.toInt + 0) + -1) := by
    omega
  rcases hd with ⟨w0, w1⟩ | w0
  · exact ⟨p, fun _ => rfl, ⟨(fun q h => by cases h), fun q h => (by cases h), (fun f h => by cases h), (fun f h => by cases h)⟩, _, List.mem_of_getElem? (i := 0) rfl, (aAllc ⟨_, rfl, w0⟩ (aAllc ⟨_, rfl, w1⟩ (fun f h => by cases h)))⟩
  · exact ⟨p, fun _ => rfl, ⟨(fun q h => by cases h), fun q h => (by cases h), (fun f h => by cases h), (fun f h => by cases h)⟩, _, List.mem_of_getElem? (i := 1) rfl, (aAllc ⟨_, rfl, w0⟩ (fun f h => by cases h))⟩
theorem rw_rwRMe {K : Nat → Nat} {n : Nat} {JX : (Nat → jcell) → Prop} : aGho (rF K n) fa_T K n JX ag_rwRMe := by
  refine aGho_of ⟨rfl, rfl⟩ ?_
  intro p σ ρ hH hX hA hM0
  have hG := aAG_of hA.1 (fun i e v he hv => (hA.2 i e v he hv).1)
  clear hA
  obtain ⟨v0, v1, v2, rfl, g0, g1, g2⟩ := rA_3 hG
  clear hG
  obtain ⟨x0, rfl, b0, d0⟩ := aG_int g0
  dsimp only at b0 d0
  obtain ⟨x1, rfl, b1, d1⟩ := aG_int g1
  dsimp only at b1 d1
  obtain ⟨x2, rfl, b2, d2⟩ := aG_int g2
  dsimp only at b2 d2
  obtain ⟨m1, m2, m3, m4⟩ := hM0
  have f0 : rB K n p 218 [rI x0, rI x1] σ := by
    obtain ⟨w, e6, e7⟩ := m4 (3490, [0, 1]) (List.mem_of_getElem? (i := 0) rfl)
    obtain rfl : [rI x0, rI x1] = w := Option.some.inj (show some [rI x0, rI x1] = some w from e6)
    exact (rF_b (r := 3490) (by decide) rfl).mp e7
  have f0 := ro_218.mp f0
  have f1 : rB K n p 218 [rI x0, rI x2] σ := by
    obtain ⟨w, e6, e7⟩ := m4 (3490, [0, 2]) (List.mem_of_getElem? (i := 1) rfl)
    obtain rfl : [rI x0, rI x2] = w := Option.some.inj (show some [rI x0, rI x2] = some w from e6)
    exact (rF_b (r := 3490) (by decide) rfl).mp e7
  have f1 := ro_218.mp f1
  clear m1 m2 m3 m4
  have hd : (0 ≤ (1 * x1.toInt + (-1 * x2.toInt + 0)) + 0 ∧ 0 ≤ (-1 * x1.toInt + (1 * x2.toInt + 0)) + 0) := by
    omega
  rcases hd with ⟨w0, w1⟩
  · exact ⟨p, fun _ => rfl, ⟨(fun q h => by cases h), fun q h => (by cases h), (fun f h => by cases h), (fun f h => by cases h)⟩, _, List.mem_of_getElem? (i := 0) rfl, (aAllc ⟨_, rfl, w0⟩ (aAllc ⟨_, rfl, w1⟩ (fun f h => by cases h)))⟩
theorem rw_rwTNx00 {K : Nat → Nat} {n : Nat} {JX : (Nat → jcell) → Prop} : aGho (rF K n) fa_T K n JX ag_rwTNx00 := by
  refine aGho_of ⟨rfl, rfl⟩ ?_
  intro p σ ρ hH hX hA hM0
  have hG := aAG_of hA.1 (fun i e v he hv => (hA.2 i e v he hv).1)
  clear hA
  obtain ⟨v0, v1, v2, v3, v4, v5, v6, rfl, g0, g1, g2, g3, g4, g5, g6⟩ := rA_7 hG
  clear hG
  obtain ⟨x0, rfl, b0, d0⟩ := rG_ref (by decide) g0
  obtain ⟨x1, rfl, b1, d1⟩ := aG_int g1
  dsimp only at b1 d1
  obtain ⟨x2, rfl, b2, d2⟩ := aG_int g2
  dsimp only at b2 d2
  obtain ⟨x3, rfl, b3, d3⟩ := aG_int g3
  dsimp only at b3 d3
  obtain ⟨x4, rfl, b4, d4⟩ := aG_int g4
  dsimp only at b4 d4
  obtain ⟨x5, rfl, b5, d5⟩ := aG_int g5
  dsimp only at b5 d5
  obtain ⟨x6, rfl, b6, d6⟩ := aG_int g6
  dsimp only at b6 d6
  obtain ⟨m1, m2, m3, m4⟩ := hM0
  obtain ⟨T, hT⟩ := rTe_ex hH b0 d0
  have f0 : rB K n p 160 [rI x1, rI x2, rI x3, rI x4] σ := by
    obtain ⟨w, e6, e7⟩ := m4 (2564, [1, 2, 3, 4]) (List.mem_of_getElem? (i := 0) rfl)
    obtain rfl : [rI x1, rI x2, rI x3, rI x4] = w := Option.some.inj (show some [rI x1, rI x2, rI x3, rI x4] = some w from e6)
    exact (rF_b (r := 2564) (by decide) rfl).mp e7
  have f0 := ro_160.mp f0
  have f1 : rB K n p 218 [rI x3, rI x5] σ := by
    obtain ⟨w, e6, e7⟩ := m4 (3490, [3, 5]) (List.mem_of_getElem? (i := 1) rfl)
    obtain rfl : [rI x3, rI x5] = w := Option.some.inj (show some [rI x3, rI x5] = some w from e6)
    exact (rF_b (r := 3490) (by decide) rfl).mp e7
  have f1 := ro_218.mp f1
  have f2 : rB K n p 218 [rI x3, rI x6] σ := by
    obtain ⟨w, e6, e7⟩ := m4 (3490, [3, 6]) (List.mem_of_getElem? (i := 2) rfl)
    obtain rfl : [rI x3, rI x6] = w := Option.some.inj (show some [rI x3, rI x6] = some w from e6)
    exact (rF_b (r := 3490) (by decide) rfl).mp e7
  have f2 := ro_218.mp f2
  clear m1 m2 m3 m4
  have q0 : rB K n p 424 [rI x1] σ := ro_424.mpr (by
    unfold rVc
    rw [← f0.2.1]
    omega)
  exact ⟨p, fun _ => rfl, ⟨(fun q h => by cases h), fun q h => (by cases h), (fun f h => by cases h), (aAllc ⟨_, rfl, (rF_b (r := 6785) (by decide) rfl).mpr q0⟩ (fun f h => by cases h))⟩, [], List.mem_cons_self, fun f h => (by cases h)⟩
theorem rw_rwTNx01 {K : Nat → Nat} {n : Nat} {JX : (Nat → jcell) → Prop} : aGho (rF K n) fa_T K n JX ag_rwTNx01 := by
  refine aGho_of ⟨rfl, rfl⟩ ?_
  intro p σ ρ hH hX hA hM0
  have hG := aAG_of hA.1 (fun i e v he hv => (hA.2 i e v he hv).1)
  clear hA
  obtain ⟨v0, v1, v2, v3, v4, v5, v6, rfl, g0, g1, g2, g3, g4, g5, g6⟩ := rA_7 hG
  clear hG
  obtain ⟨x0, rfl, b0, d0⟩ := rG_ref (by decide) g0
  obtain ⟨x1, rfl, b1, d1⟩ := aG_int g1
  dsimp only at b1 d1
  obtain ⟨x2, rfl, b2, d2⟩ := aG_int g2
  dsimp only at b2 d2
  obtain ⟨x3, rfl, b3, d3⟩ := aG_int g3
  dsimp only at b3 d3
  obtain ⟨x4, rfl, b4, d4⟩ := aG_int g4
  dsimp only at b4 d4
  obtain ⟨x5, rfl, b5, d5⟩ := aG_int g5
  dsimp only at b5 d5
  obtain ⟨x6, rfl, b6, d6⟩ := aG_int g6
  dsimp only at b6 d6
  obtain ⟨m1, m2, m3, m4⟩ := hM0
  obtain ⟨T, hT⟩ := rTe_ex hH b0 d0
  have f0 : rB K n p 160 [rI x1, rI x2, rI x3, rI x4] σ := by
    obtain ⟨w, e6, e7⟩ := m4 (2564, [1, 2, 3, 4]) (List.mem_of_getElem? (i := 0) rfl)
    obtain rfl : [rI x1, rI x2, rI x3, rI x4] = w := Option.some.inj (show some [rI x1, rI x2, rI x3, rI x4] = some w from e6)
    exact (rF_b (r := 2564) (by decide) rfl).mp e7
  have f0 := ro_160.mp f0
  have f1 : rB K n p 218 [rI x3, rI x5] σ := by
    obtain ⟨w, e6, e7⟩ := m4 (3490, [3, 5]) (List.mem_of_getElem? (i := 1) rfl)
    obtain rfl : [rI x3, rI x5] = w := Option.some.inj (show some [rI x3, rI x5] = some w from e6)
    exact (rF_b (r := 3490) (by decide) rfl).mp e7
  have f1 := ro_218.mp f1
  have f2 : rB K n p 218 [rI x3, rI x6] σ := by
    obtain ⟨w, e6, e7⟩ := m4 (3490, [3, 6]) (List.mem_of_getElem? (i := 2) rfl)
    obtain rfl : [rI x3, rI x6] = w := Option.some.inj (show some [rI x3, rI x6] = some w from e6)
    exact (rF_b (r := 3490) (by decide) rfl).mp e7
  have f2 := ro_218.mp f2
  clear m1 m2 m3 m4
  have q0 : rB K n p 424 [rI x1] σ := ro_424.mpr (by
    unfold rVc
    rw [← f0.2.1]
    omega)
  exact ⟨p, fun _ => rfl, ⟨(fun q h => by cases h), fun q h => (by cases h), (fun f h => by cases h), (aAllc ⟨_, rfl, (rF_b (r := 6785) (by decide) rfl).mpr q0⟩ (fun f h => by cases h))⟩, [], List.mem_cons_self, fun f h => (by cases h)⟩
theorem rw_rwTNx11 {K : Nat → Nat} {n : Nat} {JX : (Nat → jcell) → Prop} : aGho (rF K n) fa_T K n JX ag_rwTNx11 := by
  refine aGho_of ⟨rfl, rfl⟩ ?_
  intro p σ ρ hH hX hA hM0
  have hG := aAG_of hA.1 (fun i e v he hv => (hA.2 i e v he hv).1)
  clear hA
  obtain ⟨v0, v1, v2, v3, v4, v5, v6, rfl, g0, g1, g2, g3, g4, g5, g6⟩ := rA_7 hG
  clear hG
  obtain ⟨x0, rfl, b0, d0⟩ := rG_ref (by decide) g0
  obtain ⟨x1, rfl, b1, d1⟩ := aG_int g1
  dsimp only at b1 d1
  obtain ⟨x2, rfl, b2, d2⟩ := aG_int g2
  dsimp only at b2 d2
  obtain ⟨x3, rfl, b3, d3⟩ := aG_int g3
  dsimp only at b3 d3
  obtain ⟨x4, rfl, b4, d4⟩ := aG_int g4
  dsimp only at b4 d4
  obtain ⟨x5, rfl, b5, d5⟩ := aG_int g5
  dsimp only at b5 d5
  obtain ⟨x6, rfl, b6, d6⟩ := aG_int g6
  dsimp only at b6 d6
  obtain ⟨m1, m2, m3, m4⟩ := hM0
  obtain ⟨T, hT⟩ := rTe_ex hH b0 d0
  have f0 : rB K n p 160 [rI x1, rI x2, rI x3, rI x4] σ := by
    obtain ⟨w, e6, e7⟩ := m4 (2564, [1, 2, 3, 4]) (List.mem_of_getElem? (i := 0) rfl)
    obtain rfl : [rI x1, rI x2, rI x3, rI x4] = w := Option.some.inj (show some [rI x1, rI x2, rI x3, rI x4] = some w from e6)
    exact (rF_b (r := 2564) (by decide) rfl).mp e7
  have f0 := ro_160.mp f0
  have f1 : rB K n p 218 [rI x3, rI x5] σ := by
    obtain ⟨w, e6, e7⟩ := m4 (3490, [3, 5]) (List.mem_of_getElem? (i := 1) rfl)
    obtain rfl : [rI x3, rI x5] = w := Option.some.inj (show some [rI x3, rI x5] = some w from e6)
    exact (rF_b (r := 3490) (by decide) rfl).mp e7
  have f1 := ro_218.mp f1
  have f2 : rB K n p 218 [rI x3, rI x6] σ := by
    obtain ⟨w, e6, e7⟩ := m4 (3490, [3, 6]) (List.mem_of_getElem? (i := 2) rfl)
    obtain rfl : [rI x3, rI x6] = w := Option.some.inj (show some [rI x3, rI x6] = some w from e6)
    exact (rF_b (r := 3490) (by decide) rfl).mp e7
  have f2 := ro_218.mp f2
  clear m1 m2 m3 m4
  have q0 : rB K n p 424 [rI x1] σ := ro_424.mpr (by
    unfold rVc
    rw [← f0.2.1]
    omega)
  exact ⟨p, fun _ => rfl, ⟨(fun q h => by cases h), fun q h => (by cases h), (fun f h => by cases h), (aAllc ⟨_, rfl, (rF_b (r := 6785) (by decide) rfl).mpr q0⟩ (fun f h => by cases h))⟩, [], List.mem_cons_self, fun f h => (by cases h)⟩
theorem rw_rwRM1 {K : Nat → Nat} {n : Nat} {JX : (Nat → jcell) → Prop} : aGho (rF K n) fa_T K n JX ag_rwRM1 := by
  refine aGho_of ⟨rfl, rfl⟩ ?_
  intro p σ ρ hH hX hA hM0
  have hG := aAG_of hA.1 (fun i e v he hv => (hA.2 i e v he hv).1)
  clear hA
  obtain ⟨v0, rfl, g0⟩ := rA_1 hG
  clear hG
  obtain ⟨x0, rfl, b0, d0⟩ := aG_int g0
  dsimp only at b0 d0
  obtain ⟨m1, m2, m3, m4⟩ := hM0
  clear m1 m2 m3 m4
  have q0 : rB K n p 219 [rI x0] σ := ro_219.mpr (by
    trivial)
  exact ⟨p, fun _ => rfl, ⟨(fun q h => by cases h), fun q h => (by cases h), (fun f h => by cases h), (aAllc ⟨_, rfl, (rF_b (r := 3505) (by decide) rfl).mpr q0⟩ (fun f h => by cases h))⟩, [], List.mem_cons_self, fun f h => (by cases h)⟩
end
