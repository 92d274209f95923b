/-! the reference: rules of u8 to uA -/
theorem rw_rkRY0 {N : Int} {K : Nat → Nat} {n : Nat} {JX : (Nat → jcell) → Prop} : aGho (rH N K n) fa_T K n JX ag_rkRY0 := by
  refine aGho_of ⟨rfl, rfl⟩ ?_
  intro p σ ρ hH hX hA hM0
  have hG := aAG_of hA.1 (fun i e v he hv => (hA.2 i e v he hv).1)
  clear hA
  obtain ⟨v0, v1, v2, v3, v4, v5, v6, rfl, g0, g1, g2, g3, g4, g5, g6⟩ := rA_7 hG
  clear hG
  obtain ⟨x0, rfl, b0, d0⟩ := aG_int g0
  dsimp only at b0 d0
  obtain ⟨x1, rfl, b1, d1⟩ := aG_int g1
  dsimp only at b1 d1
  obtain ⟨x2, rfl, b2, d2⟩ := aG_int g2
  dsimp only at b2 d2
  obtain ⟨x3, rfl, b3, d3⟩ := aG_int g3
  dsimp only at b3 d3
  obtain ⟨x4, rfl, b4, d4⟩ := aG_int g4
  dsimp only at b4 d4
  obtain ⟨x5, rfl, b5, d5⟩ := aG_int g5
  dsimp only at b5 d5
  obtain ⟨x6, rfl, b6, d6⟩ := aG_int g6
  dsimp only at b6 d6
  obtain ⟨m1, m2, m3, m4⟩ := hM0
  have l0 : 0 ≤ (1 * x4.toInt + 0) + 0 := by
    obtain ⟨z, e6, e7⟩ := m3 ([(4, 1)], 0) (List.mem_of_getElem? (i := 0) rfl)
    obtain rfl : (1 * x4.toInt + 0) = z := Option.some.inj (show some (1 * x4.toInt + 0) = some z from e6)
    exact e7
  have l1 : 0 ≤ (-1 * x4.toInt + 0) + 0 := by
    obtain ⟨z, e6, e7⟩ := m3 ([(4, -1)], 0) (List.mem_of_getElem? (i := 1) rfl)
    obtain rfl : (-1 * x4.toInt + 0) = z := Option.some.inj (show some (-1 * x4.toInt + 0) = some z from e6)
    exact e7
  have l2 : 0 ≤ (1 * x5.toInt + 0) + -1 := by
    obtain ⟨z, e6, e7⟩ := m3 ([(5, 1)], -1) (List.mem_of_getElem? (i := 2) rfl)
    obtain rfl : (1 * x5.toInt + 0) = z := Option.some.inj (show some (1 * x5.toInt + 0) = some z from e6)
    exact e7
  have f0 : rB3 N K n p 226 [rI x0, rI x1, rI x4, rI x5] σ := by
    obtain ⟨w, e6, e7⟩ := m4 (3620, [0, 1, 4, 5]) (List.mem_of_getElem? (i := 0) rfl)
    obtain rfl : [rI x0, rI x1, rI x4, rI x5] = w := Option.some.inj (show some [rI x0, rI x1, rI x4, rI x5] = some w from e6)
    exact (rF_b (r := 3620) (by decide) rfl).mp e7
  have f0 := ro3_226.mp f0
  have f1 : rB3 N K n p 120 [rI x0, rI x2, rI x3, rI x6] σ := by
    obtain ⟨w, e6, e7⟩ := m4 (1924, [0, 2, 3, 6]) (List.mem_of_getElem? (i := 1) rfl)
    obtain rfl : [rI x0, rI x2, rI x3, rI x6] = w := Option.some.inj (show some [rI x0, rI x2, rI x3, rI x6] = some w from e6)
    exact (rF_b (r := 1924) (by decide) rfl).mp e7
  have f1 := ro3_120.mp f1
  clear m1 m2 m3 m4
  have r0 : 0 ≤ (1 * x6.toInt + 0) + 0 := by
    have e : x6.toInt = x0.toInt + 0 + 8 * 1 := by
      have h := f1
      rw [show x2.toInt = 0 by omega, show x3.toInt = 1 by omega] at h
      unfold rSp at h
      rw [if_pos (by omega)] at h
      exact h
    omega
  have q0 : rB3 N K n p 342 [rI x0, rI x1, rI x2, rI x3, rI x6] σ := ro3_342.mpr (by
    have e : x6.toInt = x0.toInt + 0 + 8 * 1 := by
      have h := f1
      rw [show x2.toInt = 0 by omega, show x3.toInt = 1 by omega] at h
      unfold rSp at h
      rw [if_pos (by omega)] at h
      exact h
    refine ⟨by omega, by omega, by omega, by omega, by omega, d6, (1 * x5.toInt) - 1, by omega, ?_, ?_⟩
    · rw [show x2.toInt = 0 by omega]
      omega
    · rw [show x3.toInt = 1 by omega]
      omega)
  exact ⟨p, fun _ => rfl, ⟨(fun q h => by cases h), fun q h => (by cases h), (aAllc ⟨_, rfl, r0⟩ (fun f h => by cases h)), (aAllc ⟨_, rfl, (rF_b (r := 5477) (by decide) rfl).mpr q0⟩ (fun f h => by cases h))⟩, [], List.mem_cons_self, fun f h => (by cases h)⟩
theorem rw_rkRY1 {N : Int} {K : Nat → Nat} {n : Nat} {JX : (Nat → jcell) → Prop} : aGho (rH N K n) fa_T K n JX ag_rkRY1 := by
  refine aGho_of ⟨rfl, rfl⟩ ?_
  intro p σ ρ hH hX hA hM0
  have hG := aAG_of hA.1 (fun i e v he hv => (hA.2 i e v he hv).1)
  clear hA
  obtain ⟨v0, v1, v2, v3, v4, v5, v6, rfl, g0, g1, g2, g3, g4, g5, g6⟩ := rA_7 hG
  clear hG
  obtain ⟨x0, rfl, b0, d0⟩ := aG_int g0
  dsimp only at b0 d0
  obtain ⟨x1, rfl, b1, d1⟩ := aG_int g1
  dsimp only at b1 d1
  obtain ⟨x2, rfl, b2, d2⟩ := aG_int g2
  dsimp only at b2 d2
  obtain ⟨x3, rfl, b3, d3⟩ := aG_int g3
  dsimp only at b3 d3
  obtain ⟨x4, rfl, b4, d4⟩ := aG_int g4
  dsimp only at b4 d4
  obtain ⟨x5, rfl, b5, d5⟩ := aG_int g5
  dsimp only at b5 d5
  obtain ⟨x6, rfl, b6, d6⟩ := aG_int g6
  dsimp only at b6 d6
  obtain ⟨m1, m2, m3, m4⟩ := hM0
  have l0 : 0 ≤ (1 * x4.toInt + 0) + 0 := by
    obtain ⟨z, e6, e7⟩ := m3 ([(4, 1)], 0) (List.mem_of_getElem? (i := 0) rfl)
    obtain rfl : (1 * x4.toInt + 0) = z := Option.some.inj (show some (1 * x4.toInt + 0) = some z from e6)
    exact e7
  have l1 : 0 ≤ (-1 * x4.toInt + 0) + 0 := by
    obtain ⟨z, e6, e7⟩ := m3 ([(4, -1)], 0) (List.mem_of_getElem? (i := 1) rfl)
    obtain rfl : (-1 * x4.toInt + 0) = z := Option.some.inj (show some (-1 * x4.toInt + 0) = some z from e6)
    exact e7
  have l2 : 0 ≤ (-1 * x5.toInt + 0) + -1 := by
    obtain ⟨z, e6, e7⟩ := m3 ([(5, -1)], -1) (List.mem_of_getElem? (i := 2) rfl)
    obtain rfl : (-1 * x5.toInt + 0) = z := Option.some.inj (show some (-1 * x5.toInt + 0) = some z from e6)
    exact e7
  have f0 : rB3 N K n p 226 [rI x0, rI x1, rI x4, rI x5] σ := by
    obtain ⟨w, e6, e7⟩ := m4 (3620, [0, 1, 4, 5]) (List.mem_of_getElem? (i := 0) rfl)
    obtain rfl : [rI x0, rI x1, rI x4, rI x5] = w := Option.some.inj (show some [rI x0, rI x1, rI x4, rI x5] = some w from e6)
    exact (rF_b (r := 3620) (by decide) rfl).mp e7
  have f0 := ro3_226.mp f0
  have f1 : rB3 N K n p 120 [rI x0, rI x2, rI x3, rI x6] σ := by
    obtain ⟨w, e6, e7⟩ := m4 (1924, [0, 2, 3, 6]) (List.mem_of_getElem? (i := 1) rfl)
    obtain rfl : [rI x0, rI x2, rI x3, rI x6] = w := Option.some.inj (show some [rI x0, rI x2, rI x3, rI x6] = some w from e6)
    exact (rF_b (r := 1924) (by decide) rfl).mp e7
  have f1 := ro3_120.mp f1
  clear m1 m2 m3 m4
  have r0 : 0 ≤ (1 * x6.toInt + 0) + 0 := by
    have e : x6.toInt = x0.toInt + 0 + 8 * (-1) := by
      have h := f1
      rw [show x2.toInt = 0 by omega, show x3.toInt = -1 by omega] at h
      unfold rSp at h
      rw [if_pos (by omega)] at h
      exact h
    omega
  have q0 : rB3 N K n p 342 [rI x0, rI x1, rI x2, rI x3, rI x6] σ := ro3_342.mpr (by
    have e : x6.toInt = x0.toInt + 0 + 8 * (-1) := by
      have h := f1
      rw [show x2.toInt = 0 by omega, show x3.toInt = -1 by omega] at h
      unfold rSp at h
      rw [if_pos (by omega)] at h
      exact h
    refine ⟨by omega, by omega, by omega, by omega, by omega, d6, (-1 * x5.toInt) - 1, by omega, ?_, ?_⟩
    · rw [show x2.toInt = 0 by omega]
      omega
    · rw [show x3.toInt = -1 by omega]
      omega)
  exact ⟨p, fun _ => rfl, ⟨(fun q h => by cases h), fun q h => (by cases h), (aAllc ⟨_, rfl, r0⟩ (fun f h => by cases h)), (aAllc ⟨_, rfl, (rF_b (r := 5477) (by decide) rfl).mpr q0⟩ (fun f h => by cases h))⟩, [], List.mem_cons_self, fun f h => (by cases h)⟩
theorem rw_rkRY2 {N : Int} {K : Nat → Nat} {n : Nat} {JX : (Nat → jcell) → Prop} : aGho (rH N K n) fa_T K n JX ag_rkRY2 := by
  refine aGho_of ⟨rfl, rfl⟩ ?_
  intro p σ ρ hH hX hA hM0
  have hG := aAG_of hA.1 (fun i e v he hv => (hA.2 i e v he hv).1)
  clear hA
  obtain ⟨v0, v1, v2, v3, v4, v5, v6, rfl, g0, g1, g2, g3, g4, g5, g6⟩ := rA_7 hG
  clear hG
  obtain ⟨x0, rfl, b0, d0⟩ := aG_int g0
  dsimp only at b0 d0
  obtain ⟨x1, rfl, b1, d1⟩ := aG_int g1
  dsimp only at b1 d1
  obtain ⟨x2, rfl, b2, d2⟩ := aG_int g2
  dsimp only at b2 d2
  obtain ⟨x3, rfl, b3, d3⟩ := aG_int g3
  dsimp only at b3 d3
  obtain ⟨x4, rfl, b4, d4⟩ := aG_int g4
  dsimp only at b4 d4
  obtain ⟨x5, rfl, b5, d5⟩ := aG_int g5
  dsimp only at b5 d5
  obtain ⟨x6, rfl, b6, d6⟩ := aG_int g6
  dsimp only at b6 d6
  obtain ⟨m1, m2, m3, m4⟩ := hM0
  have l0 : 0 ≤ (1 * x4.toInt + 0) + -1 := by
    obtain ⟨z, e6, e7⟩ := m3 ([(4, 1)], -1) (List.mem_of_getElem? (i := 0) rfl)
    obtain rfl : (1 * x4.toInt + 0) = z := Option.some.inj (show some (1 * x4.toInt + 0) = some z from e6)
    exact e7
  have l1 : 0 ≤ (1 * x5.toInt + 0) + 0 := by
    obtain ⟨z, e6, e7⟩ := m3 ([(5, 1)], 0) (List.mem_of_getElem? (i := 1) rfl)
    obtain rfl : (1 * x5.toInt + 0) = z := Option.some.inj (show some (1 * x5.toInt + 0) = some z from e6)
    exact e7
  have l2 : 0 ≤ (-1 * x5.toInt + 0) + 0 := by
    obtain ⟨z, e6, e7⟩ := m3 ([(5, -1)], 0) (List.mem_of_getElem? (i := 2) rfl)
    obtain rfl : (-1 * x5.toInt + 0) = z := Option.some.inj (show some (-1 * x5.toInt + 0) = some z from e6)
    exact e7
  have f0 : rB3 N K n p 226 [rI x0, rI x1, rI x4, rI x5] σ := by
    obtain ⟨w, e6, e7⟩ := m4 (3620, [0, 1, 4, 5]) (List.mem_of_getElem? (i := 0) rfl)
    obtain rfl : [rI x0, rI x1, rI x4, rI x5] = w := Option.some.inj (show some [rI x0, rI x1, rI x4, rI x5] = some w from e6)
    exact (rF_b (r := 3620) (by decide) rfl).mp e7
  have f0 := ro3_226.mp f0
  have f1 : rB3 N K n p 120 [rI x0, rI x2, rI x3, rI x6] σ := by
    obtain ⟨w, e6, e7⟩ := m4 (1924, [0, 2, 3, 6]) (List.mem_of_getElem? (i := 1) rfl)
    obtain rfl : [rI x0, rI x2, rI x3, rI x6] = w := Option.some.inj (show some [rI x0, rI x2, rI x3, rI x6] = some w from e6)
    exact (rF_b (r := 1924) (by decide) rfl).mp e7
  have f1 := ro3_120.mp f1
  clear m1 m2 m3 m4
  have r0 : 0 ≤ (1 * x6.toInt + 0) + 0 := by
    have e : x6.toInt = x0.toInt + 1 + 8 * 0 := by
      have h := f1
      rw [show x2.toInt = 1 by omega, show x3.toInt = 0 by omega] at h
      unfold rSp at h
      rw [if_pos (by omega)] at h
      exact h
    omega
  have q0 : rB3 N K n p 342 [rI x0, rI x1, rI x2, rI x3, rI x6] σ := ro3_342.mpr (by
    have e : x6.toInt = x0.toInt + 1 + 8 * 0 := by
      have h := f1
      rw [show x2.toInt = 1 by omega, show x3.toInt = 0 by omega] at h
      unfold rSp at h
      rw [if_pos (by omega)] at h
      exact h
    refine ⟨by omega, by omega, by omega, by omega, by omega, d6, (1 * x4.toInt) - 1, by omega, ?_, ?_⟩
    · rw [show x2.toInt = 1 by omega]
      omega
    · rw [show x3.toInt = 0 by omega]
      omega)
  exact ⟨p, fun _ => rfl, ⟨(fun q h => by cases h), fun q h => (by cases h), (aAllc ⟨_, rfl, r0⟩ (fun f h => by cases h)), (aAllc ⟨_, rfl, (rF_b (r := 5477) (by decide) rfl).mpr q0⟩ (fun f h => by cases h))⟩, [], List.mem_cons_self, fun f h => (by cases h)⟩
theorem rw_rkRY3 {N : Int} {K : Nat → Nat} {n : Nat} {JX : (Nat → jcell) → Prop} : aGho (rH N K n) fa_T K n JX ag_rkRY3 := by
  refine aGho_of ⟨rfl, rfl⟩ ?_
  intro p σ ρ hH hX hA hM0
  have hG := aAG_of hA.1 (fun i e v he hv => (hA.2 i e v he hv).1)
  clear hA
  obtain ⟨v0, v1, v2, v3, v4, v5, v6, rfl, g0, g1, g2, g3, g4, g5, g6⟩ := rA_7 hG
  clear hG
  obtain ⟨x0, rfl, b0, d0⟩ := aG_int g0
  dsimp only at b0 d0
  obtain ⟨x1, rfl, b1, d1⟩ := aG_int g1
  dsimp only at b1 d1
  obtain ⟨x2, rfl, b2, d2⟩ := aG_int g2
  dsimp only at b2 d2
  obtain ⟨x3, rfl, b3, d3⟩ := aG_int g3
  dsimp only at b3 d3
  obtain ⟨x4, rfl, b4, d4⟩ := aG_int g4
  dsimp only at b4 d4
  obtain ⟨x5, rfl, b5, d5⟩ := aG_int g5
  dsimp only at b5 d5
  obtain ⟨x6, rfl, b6, d6⟩ := aG_int g6
  dsimp only at b6 d6
  obtain ⟨m1, m2, m3, m4⟩ := hM0
  have l0 : 0 ≤ (-1 * x4.toInt + 0) + -1 := by
    obtain ⟨z, e6, e7⟩ := m3 ([(4, -1)], -1) (List.mem_of_getElem? (i := 0) rfl)
    obtain rfl : (-1 * x4.toInt + 0) = z := Option.some.inj (show some (-1 * x4.toInt + 0) = some z from e6)
    exact e7
  have l1 : 0 ≤ (1 * x5.toInt + 0) + 0 := by
    obtain ⟨z, e6, e7⟩ := m3 ([(5, 1)], 0) (List.mem_of_getElem? (i := 1) rfl)
    obtain rfl : (1 * x5.toInt + 0) = z := Option.some.inj (show some (1 * x5.toInt + 0) = some z from e6)
    exact e7
  have l2 : 0 ≤ (-1 * x5.toInt + 0) + 0 := by
    obtain ⟨z, e6, e7⟩ := m3 ([(5, -1)], 0) (List.mem_of_getElem? (i := 2) rfl)
    obtain rfl : (-1 * x5.toInt + 0) = z := Option.some.inj (show some (-1 * x5.toInt + 0) = some z from e6)
    exact e7
  have f0 : rB3 N K n p 226 [rI x0, rI x1, rI x4, rI x5] σ := by
    obtain ⟨w, e6, e7⟩ := m4 (3620, [0, 1, 4, 5]) (List.mem_of_getElem? (i := 0) rfl)
    obtain rfl : [rI x0, rI x1, rI x4, rI x5] = w := Option.some.inj (show some [rI x0, rI x1, rI x4, rI x5] = some w from e6)
    exact (rF_b (r := 3620) (by decide) rfl).mp e7
  have f0 := ro3_226.mp f0
  have f1 : rB3 N K n p 120 [rI x0, rI x2, rI x3, rI x6] σ := by
    obtain ⟨w, e6, e7⟩ := m4 (1924, [0, 2, 3, 6]) (List.mem_of_getElem? (i := 1) rfl)
    obtain rfl : [rI x0, rI x2, rI x3, rI x6] = w := Option.some.inj (show some [rI x0, rI x2, rI x3, rI x6] = some w from e6)
    exact (rF_b (r := 1924) (by decide) rfl).mp e7
  have f1 := ro3_120.mp f1
  clear m1 m2 m3 m4
  have r0 : 0 ≤ (1 * x6.toInt + 0) + 0 := by
    have e : x6.toInt = x0.toInt + -1 + 8 * 0 := by
      have h := f1
      rw [show x2.toInt = -1 by omega, show x3.toInt = 0 by omega] at h
      unfold rSp at h
      rw [if_pos (by omega)] at h
      exact h
    omega
  have q0 : rB3 N K n p 342 [rI x0, rI x1, rI x2, rI x3, rI x6] σ := ro3_342.mpr (by
    have e : x6.toInt = x0.toInt + -1 + 8 * 0 := by
      have h := f1
      rw [show x2.toInt = -1 by omega, show x3.toInt = 0 by omega] at h
      unfold rSp at h
      rw [if_pos (by omega)] at h
      exact h
    refine ⟨by omega, by omega, by omega, by omega, by omega, d6, (-1 * x4.toInt) - 1, by omega, ?_, ?_⟩
    · rw [show x2.toInt = -1 by omega]
      omega
    · rw [show x3.toInt = 0 by omega]
      omega)
  exact ⟨p, fun _ => rfl, ⟨(fun q h => by cases h), fun q h => (by cases h), (aAllc ⟨_, rfl, r0⟩ (fun f h => by cases h)), (aAllc ⟨_, rfl, (rF_b (r := 5477) (by decide) rfl).mpr q0⟩ (fun f h => by cases h))⟩, [], List.mem_cons_self, fun f h => (by cases h)⟩
theorem rw_rkRY4 {N : Int} {K : Nat → Nat} {n : Nat} {JX : (Nat → jcell) → Prop} : aGho (rH N K n) fa_T K n JX ag_rkRY4 := by
  refine aGho_of ⟨rfl, rfl⟩ ?_
  intro p σ ρ hH hX hA hM0
  have hG := aAG_of hA.1 (fun i e v he hv => (hA.2 i e v he hv).1)
  clear hA
  obtain ⟨v0, v1, v2, v3, v4, v5, v6, rfl, g0, g1, g2, g3, g4, g5, g6⟩ := rA_7 hG
  clear hG
  obtain ⟨x0, rfl, b0, d0⟩ := aG_int g0
  dsimp only at b0 d0
  obtain ⟨x1, rfl, b1, d1⟩ := aG_int g1
  dsimp only at b1 d1
  obtain ⟨x2, rfl, b2, d2⟩ := aG_int g2
  dsimp only at b2 d2
  obtain ⟨x3, rfl, b3, d3⟩ := aG_int g3
  dsimp only at b3 d3
  obtain ⟨x4, rfl, b4, d4⟩ := aG_int g4
  dsimp only at b4 d4
  obtain ⟨x5, rfl, b5, d5⟩ := aG_int g5
  dsimp only at b5 d5
  obtain ⟨x6, rfl, b6, d6⟩ := aG_int g6
  dsimp only at b6 d6
  obtain ⟨m1, m2, m3, m4⟩ := hM0
  have l0 : 0 ≤ (1 * x4.toInt + 0) + -1 := by
    obtain ⟨z, e6, e7⟩ := m3 ([(4, 1)], -1) (List.mem_of_getElem? (i := 0) rfl)
    obtain rfl : (1 * x4.toInt + 0) = z := Option.some.inj (show some (1 * x4.toInt + 0) = some z from e6)
    exact e7
  have l1 : 0 ≤ (1 * x5.toInt + 0) + -1 := by
    obtain ⟨z, e6, e7⟩ := m3 ([(5, 1)], -1) (List.mem_of_getElem? (i := 1) rfl)
    obtain rfl : (1 * x5.toInt + 0) = z := Option.some.inj (show some (1 * x5.toInt + 0) = some z from e6)
    exact e7
  have l2 : 0 ≤ (1 * x4.toInt + (-1 * x5.toInt + 0)) + 0 := by
    obtain ⟨z, e6, e7⟩ := m3 ([(4, 1), (5, -1)], 0) (List.mem_of_getElem? (i := 2) rfl)
    obtain rfl : (1 * x4.toInt + (-1 * x5.toInt + 0)) = z := Option.some.inj (show some (1 * x4.toInt + (-1 * x5.toInt + 0)) = some z from e6)
    exact e7
  have l3 : 0 ≤ (-1 * x4.toInt + (1 * x5.toInt + 0)) + 0 := by
    obtain ⟨z, e6, e7⟩ := m3 ([(4, -1), (5, 1)], 0) (List.mem_of_getElem? (i := 3) rfl)
    obtain rfl : (-1 * x4.toInt + (1 * x5.toInt + 0)) = z := Option.some.inj (show some (-1 * x4.toInt + (1 * x5.toInt + 0)) = some z from e6)
    exact e7
  have f0 : rB3 N K n p 226 [rI x0, rI x1, rI x4, rI x5] σ := by
    obtain ⟨w, e6, e7⟩ := m4 (3620, [0, 1, 4, 5]) (List.mem_of_getElem? (i := 0) rfl)
    obtain rfl : [rI x0, rI x1, rI x4, rI x5] = w := Option.some.inj (show some [rI x0, rI x1, rI x4, rI x5] = some w from e6)
    exact (rF_b (r := 3620) (by decide) rfl).mp e7
  have f0 := ro3_226.mp f0
  have f1 : rB3 N K n p 120 [rI x0, rI x2, rI x3, rI x6] σ := by
    obtain ⟨w, e6, e7⟩ := m4 (1924, [0, 2, 3, 6]) (List.mem_of_getElem? (i := 1) rfl)
    obtain rfl : [rI x0, rI x2, rI x3, rI x6] = w := Option.some.inj (show some [rI x0, rI x2, rI x3, rI x6] = some w from e6)
    exact (rF_b (r := 1924) (by decide) rfl).mp e7
  have f1 := ro3_120.mp f1
  clear m1 m2 m3 m4
  have r0 : 0 ≤ (1 * x6.toInt + 0) + 0 := by
    have e : x6.toInt = x0.toInt + 1 + 8 * 1 := by
      have h := f1
      rw [show x2.toInt = 1 by omega, show x3.toInt = 1 by omega] at h
      unfold rSp at h
      rw [if_pos (by omega)] at h
      exact h
    omega
  have q0 : rB3 N K n p 342 [rI x0, rI x1, rI x2, rI x3, rI x6] σ := ro3_342.mpr (by
    have e : x6.toInt = x0.toInt + 1 + 8 * 1 := by
      have h := f1
      rw [show x2.toInt = 1 by omega, show x3.toInt = 1 by omega] at h
      unfold rSp at h
      rw [if_pos (by omega)] at h
      exact h
    refine ⟨by omega, by omega, by omega, by omega, by omega, d6, (1 * x4.toInt) - 1, by omega, ?_, ?_⟩
    · rw [show x2.toInt = 1 by omega]
      omega
    · rw [show x3.toInt = 1 by omega]
      omega)
  exact ⟨p, fun _ => rfl, ⟨(fun q h => by cases h), fun q h => (by cases h), (aAllc ⟨_, rfl, r0⟩ (fun f h => by cases h)), (aAllc ⟨_, rfl, (rF_b (r := 5477) (by decide) rfl).mpr q0⟩ (fun f h => by cases h))⟩, [], List.mem_cons_self, fun f h => (by cases h)⟩
theorem rw_rkRY5 {N : Int} {K : Nat → Nat} {n : Nat} {JX : (Nat → jcell) → Prop} : aGho (rH N K n) fa_T K n JX ag_rkRY5 := by
  refine aGho_of ⟨rfl, rfl⟩ ?_
  intro p σ ρ hH hX hA hM0
  have hG := aAG_of hA.1 (fun i e v he hv => (hA.2 i e v he hv).1)
  clear hA
  obtain ⟨v0, v1, v2, v3, v4, v5, v6, rfl, g0, g1, g2, g3, g4, g5, g6⟩ := rA_7 hG
  clear hG
  obtain ⟨x0, rfl, b0, d0⟩ := aG_int g0
  dsimp only at b0 d0
  obtain ⟨x1, rfl, b1, d1⟩ := aG_int g1
  dsimp only at b1 d1
  obtain ⟨x2, rfl, b2, d2⟩ := aG_int g2
  dsimp only at b2 d2
  obtain ⟨x3, rfl, b3, d3⟩ := aG_int g3
  dsimp only at b3 d3
  obtain ⟨x4, rfl, b4, d4⟩ := aG_int g4
  dsimp only at b4 d4
  obtain ⟨x5, rfl, b5, d5⟩ := aG_int g5
  dsimp only at b5 d5
  obtain ⟨x6, rfl, b6, d6⟩ := aG_int g6
  dsimp only at b6 d6
  obtain ⟨m1, m2, m3, m4⟩ := hM0
  have l0 : 0 ≤ (-1 * x4.toInt + 0) + -1 := by
    obtain ⟨z, e6, e7⟩ := m3 ([(4, -1)], -1) (List.mem_of_getElem? (i := 0) rfl)
    obtain rfl : (-1 * x4.toInt + 0) = z := Option.some.inj (show some (-1 * x4.toInt + 0) = some z from e6)
    exact e7
  have l1 : 0 ≤ (-1 * x5.toInt + 0) + -1 := by
    obtain ⟨z, e6, e7⟩ := m3 ([(5, -1)], -1) (List.mem_of_getElem? (i := 1) rfl)
    obtain rfl : (-1 * x5.toInt + 0) = z := Option.some.inj (show some (-1 * x5.toInt + 0) = some z from e6)
    exact e7
  have l2 : 0 ≤ (-1 * x4.toInt + (1 * x5.toInt + 0)) + 0 := by
    obtain ⟨z, e6, e7⟩ := m3 ([(4, -1), (5, 1)], 0) (List.mem_of_getElem? (i := 2) rfl)
    obtain rfl : (-1 * x4.toInt + (1 * x5.toInt + 0)) = z := Option.some.inj (show some (-1 * x4.toInt + (1 * x5.toInt + 0)) = some z from e6)
    exact e7
  have l3 : 0 ≤ (1 * x4.toInt + (-1 * x5.toInt + 0)) + 0 := by
    obtain ⟨z, e6, e7⟩ := m3 ([(4, 1), (5, -1)], 0) (List.mem_of_getElem? (i := 3) rfl)
    obtain rfl : (1 * x4.toInt + (-1 * x5.toInt + 0)) = z := Option.some.inj (show some (1 * x4.toInt + (-1 * x5.toInt + 0)) = some z from e6)
    exact e7
  have f0 : rB3 N K n p 226 [rI x0, rI x1, rI x4, rI x5] σ := by
    obtain ⟨w, e6, e7⟩ := m4 (3620, [0, 1, 4, 5]) (List.mem_of_getElem? (i := 0) rfl)
    obtain rfl : [rI x0, rI x1, rI x4, rI x5] = w := Option.some.inj (show some [rI x0, rI x1, rI x4, rI x5] = some w from e6)
    exact (rF_b (r := 3620) (by decide) rfl).mp e7
  have f0 := ro3_226.mp f0
  have f1 : rB3 N K n p 120 [rI x0, rI x2, rI x3, rI x6] σ := by
    obtain ⟨w, e6, e7⟩ := m4 (1924, [0, 2, 3, 6]) (List.mem_of_getElem? (i := 1) rfl)
    obtain rfl : [rI x0, rI x2, rI x3, rI x6] = w := Option.some.inj (show some [rI x0, rI x2, rI x3, rI x6] = some w from e6)
    exact (rF_b (r := 1924) (by decide) rfl).mp e7
  have f1 := ro3_120.mp f1
  clear m1 m2 m3 m4
  have r0 : 0 ≤ (1 * x6.toInt + 0) + 0 := by
    have e : x6.toInt = x0.toInt + -1 + 8 * (-1) := by
      have h := f1
      rw [show x2.toInt = -1 by omega, show x3.toInt = -1 by omega] at h
      unfold rSp at h
      rw [if_pos (by omega)] at h
      exact h
    omega
  have q0 : rB3 N K n p 342 [rI x0, rI x1, rI x2, rI x3, rI x6] σ := ro3_342.mpr (by
    have e : x6.toInt = x0.toInt + -1 + 8 * (-1) := by
      have h := f1
      rw [show x2.toInt = -1 by omega, show x3.toInt = -1 by omega] at h
      unfold rSp at h
      rw [if_pos (by omega)] at h
      exact h
    refine ⟨by omega, by omega, by omega, by omega, by omega, d6, (-1 * x4.toInt) - 1, by omega, ?_, ?_⟩
    · rw [show x2.toInt = -1 by omega]
      omega
    · rw [show x3.toInt = -1 by omega]
      omega)
  exact ⟨p, fun _ => rfl, ⟨(fun q h => by cases h), fun q h => (by cases h), (aAllc ⟨_, rfl, r0⟩ (fun f h => by cases h)), (aAllc ⟨_, rfl, (rF_b (r := 5477) (by decide) rfl).mpr q0⟩ (fun f h => by cases h))⟩, [], List.mem_cons_self, fun f h => (by cases h)⟩
theorem rw_rkRY6 {N : Int} {K : Nat → Nat} {n : Nat} {JX : (Nat → jcell) → Prop} : aGho (rH N K n) fa_T K n JX ag_rkRY6 := by
  refine aGho_of ⟨rfl, rfl⟩ ?_
  intro p σ ρ hH hX hA hM0
  have hG := aAG_of hA.1 (fun i e v he hv => (hA.2 i e v he hv).1)
  clear hA
  obtain ⟨v0, v1, v2, v3, v4, v5, v6, rfl, g0, g1, g2, g3, g4, g5, g6⟩ := rA_7 hG
  clear hG
  obtain ⟨x0, rfl, b0, d0⟩ := aG_int g0
  dsimp only at b0 d0
  obtain ⟨x1, rfl, b1, d1⟩ := aG_int g1
  dsimp only at b1 d1
  obtain ⟨x2, rfl, b2, d2⟩ := aG_int g2
  dsimp only at b2 d2
  obtain ⟨x3, rfl, b3, d3⟩ := aG_int g3
  dsimp only at b3 d3
  obtain ⟨x4, rfl, b4, d4⟩ := aG_int g4
  dsimp only at b4 d4
  obtain ⟨x5, rfl, b5, d5⟩ := aG_int g5
  dsimp only at b5 d5
  obtain ⟨x6, rfl, b6, d6⟩ := aG_int g6
  dsimp only at b6 d6
  obtain ⟨m1, m2, m3, m4⟩ := hM0
  have l0 : 0 ≤ (1 * x4.toInt + 0) + -1 := by
    obtain ⟨z, e6, e7⟩ := m3 ([(4, 1)], -1) (List.mem_of_getElem? (i := 0) rfl)
    obtain rfl : (1 * x4.toInt + 0) = z := Option.some.inj (show some (1 * x4.toInt + 0) = some z from e6)
    exact e7
  have l1 : 0 ≤ (-1 * x5.toInt + 0) + -1 := by
    obtain ⟨z, e6, e7⟩ := m3 ([(5, -1)], -1) (List.mem_of_getElem? (i := 1) rfl)
    obtain rfl : (-1 * x5.toInt + 0) = z := Option.some.inj (show some (-1 * x5.toInt + 0) = some z from e6)
    exact e7
  have l2 : 0 ≤ (1 * x4.toInt + (1 * x5.toInt + 0)) + 0 := by
    obtain ⟨z, e6, e7⟩ := m3 ([(4, 1), (5, 1)], 0) (List.mem_of_getElem? (i := 2) rfl)
    obtain rfl : (1 * x4.toInt + (1 * x5.toInt + 0)) = z := Option.some.inj (show some (1 * x4.toInt + (1 * x5.toInt + 0)) = some z from e6)
    exact e7
  have l3 : 0 ≤ (-1 * x4.toInt + (-1 * x5.toInt + 0)) + 0 := by
    obtain ⟨z, e6, e7⟩ := m3 ([(4, -1), (5, -1)], 0) (List.mem_of_getElem? (i := 3) rfl)
    obtain rfl : (-1 * x4.toInt + (-1 * x5.toInt + 0)) = z := Option.some.inj (show some (-1 * x4.toInt + (-1 * x5.toInt + 0)) = some z from e6)
    exact e7
  have f0 : rB3 N K n p 226 [rI x0, rI x1, rI x4, rI x5] σ := by
    obtain ⟨w, e6, e7⟩ := m4 (3620, [0, 1, 4, 5]) (List.mem_of_getElem? (i := 0) rfl)
    obtain rfl : [rI x0, rI x1, rI x4, rI x5] = w := Option.some.inj (show some [rI x0, rI x1, rI x4, rI x5] = some w from e6)
    exact (rF_b (r := 3620) (by decide) rfl).mp e7
  have f0 := ro3_226.mp f0
  have f1 : rB3 N K n p 120 [rI x0, rI x2, rI x3, rI x6] σ := by
    obtain ⟨w, e6, e7⟩ := m4 (1924, [0, 2, 3, 6]) (List.mem_of_getElem? (i := 1) rfl)
    obtain rfl : [rI x0, rI x2, rI x3, rI x6] = w := Option.some.inj (show some [rI x0, rI x2, rI x3, rI x6] = some w from e6)
    exact (rF_b (r := 1924) (by decide) rfl).mp e7
  have f1 := ro3_120.mp f1
  clear m1 m2 m3 m4
  have r0 : 0 ≤ (1 * x6.toInt + 0) + 0 := by
    have e : x6.toInt = x0.toInt + 1 + 8 * (-1) := by
      have h := f1
      rw [show x2.toInt = 1 by omega, show x3.toInt = -1 by omega] at h
      unfold rSp at h
      rw [if_pos (by omega)] at h
      exact h
    omega
  have q0 : rB3 N K n p 342 [rI x0, rI x1, rI x2, rI x3, rI x6] σ := ro3_342.mpr (by
    have e : x6.toInt = x0.toInt + 1 + 8 * (-1) := by
      have h := f1
      rw [show x2.toInt = 1 by omega, show x3.toInt = -1 by omega] at h
      unfold rSp at h
      rw [if_pos (by omega)] at h
      exact h
    refine ⟨by omega, by omega, by omega, by omega, by omega, d6, (1 * x4.toInt) - 1, by omega, ?_, ?_⟩
    · rw [show x2.toInt = 1 by omega]
      omega
    · rw [show x3.toInt = -1 by omega]
      omega)
  exact ⟨p, fun _ => rfl, ⟨(fun q h => by cases h), fun q h => (by cases h), (aAllc ⟨_, rfl, r0⟩ (fun f h => by cases h)), (aAllc ⟨_, rfl, (rF_b (r := 5477) (by decide) rfl).mpr q0⟩ (fun f h => by cases h))⟩, [], List.mem_cons_self, fun f h => (by cases h)⟩
theorem rw_rkRY7 {N : Int} {K : Nat → Nat} {n : Nat} {JX : (Nat → jcell) → Prop} : aGho (rH N K n) fa_T K n JX ag_rkRY7 := by
  refine aGho_of ⟨rfl, rfl⟩ ?_
  intro p σ ρ hH hX hA hM0
  have hG := aAG_of hA.1 (fun i e v he hv => (hA.2 i e v he hv).1)
  clear hA
  obtain ⟨v0, v1, v2, v3, v4, v5, v6, rfl, g0, g1, g2, g3, g4, g5, g6⟩ := rA_7 hG
  clear hG
  obtain ⟨x0, rfl, b0, d0⟩ := aG_int g0
  dsimp only at b0 d0
  obtain ⟨x1, rfl, b1, d1⟩ := aG_int g1
  dsimp only at b1 d1
  obtain ⟨x2, rfl, b2, d2⟩ := aG_int g2
  dsimp only at b2 d2
  obtain ⟨x3, rfl, b3, d3⟩ := aG_int g3
  dsimp only at b3 d3
  obtain ⟨x4, rfl, b4, d4⟩ := aG_int g4
  dsimp only at b4 d4
  obtain ⟨x5, rfl, b5, d5⟩ := aG_int g5
  dsimp only at b5 d5
  obtain ⟨x6, rfl, b6, d6⟩ := aG_int g6
  dsimp only at b6 d6
  obtain ⟨m1, m2, m3, m4⟩ := hM0
  have l0 : 0 ≤ (-1 * x4.toInt + 0) + -1 := by
    obtain ⟨z, e6, e7⟩ := m3 ([(4, -1)], -1) (List.mem_of_getElem? (i := 0) rfl)
    obtain rfl : (-1 * x4.toInt + 0) = z := Option.some.inj (show some (-1 * x4.toInt + 0) = some z from e6)
    exact e7
  have l1 : 0 ≤ (1 * x5.toInt + 0) + -1 := by
    obtain ⟨z, e6, e7⟩ := m3 ([(5, 1)], -1) (List.mem_of_getElem? (i := 1) rfl)
    obtain rfl : (1 * x5.toInt + 0) = z := Option.some.inj (show some (1 * x5.toInt + 0) = some z from e6)
    exact e7
  have l2 : 0 ≤ (-1 * x4.toInt + (-1 * x5.toInt + 0)) + 0 := by
    obtain ⟨z, e6, e7⟩ := m3 ([(4, -1), (5, -1)], 0) (List.mem_of_getElem? (i := 2) rfl)
    obtain rfl : (-1 * x4.toInt + (-1 * x5.toInt + 0)) = z := Option.some.inj (show some (-1 * x4.toInt + (-1 * x5.toInt + 0)) = some z from e6)
    exact e7
  have l3 : 0 ≤ (1 * x4.toInt + (1 * x5.toInt + 0)) + 0 := by
    obtain ⟨z, e6, e7⟩ := m3 ([(4, 1), (5, 1)], 0) (List.mem_of_getElem? (i := 3) rfl)
    obtain rfl : (1 * x4.toInt + (1 * x5.toInt + 0)) = z := Option.some.inj (show some (1 * x4.toInt + (1 * x5.toInt + 0)) = some z from e6)
    exact e7
  have f0 : rB3 N K n p 226 [rI x0, rI x1, rI x4, rI x5] σ := by
    obtain ⟨w, e6, e7⟩ := m4 (3620, [0, 1, 4, 5]) (List.mem_of_getElem? (i := 0) rfl)
    obtain rfl : [rI x0, rI x1, rI x4, rI x5] = w := Option.some.inj (show some [rI x0, rI x1, rI x4, rI x5] = some w from e6)
    exact (rF_b (r := 3620) (by decide) rfl).mp e7
  have f0 := ro3_226.mp f0
  have f1 : rB3 N K n p 120 [rI x0, rI x2, rI x3, rI x6] σ := by
    obtain ⟨w, e6, e7⟩ := m4 (1924, [0, 2, 3, 6]) (List.mem_of_getElem? (i := 1) rfl)
    obtain rfl : [rI x0, rI x2, rI x3, rI x6] = w := Option.some.inj (show some [rI x0, rI x2, rI x3, rI x6] = some w from e6)
    exact (rF_b (r := 1924) (by decide) rfl).mp e7
  have f1 := ro3_120.mp f1
  clear m1 m2 m3 m4
  have r0 : 0 ≤ (1 * x6.toInt + 0) + 0 := by
    have e : x6.toInt = x0.toInt + -1 + 8 * 1 := by
      have h := f1
      rw [show x2.toInt = -1 by omega, show x3.toInt = 1 by omega] at h
      unfold rSp at h
      rw [if_pos (by omega)] at h
      exact h
    omega
  have q0 : rB3 N K n p 342 [rI x0, rI x1, rI x2, rI x3, rI x6] σ := ro3_342.mpr (by
    have e : x6.toInt = x0.toInt + -1 + 8 * 1 := by
      have h := f1
      rw [show x2.toInt = -1 by omega, show x3.toInt = 1 by omega] at h
      unfold rSp at h
      rw [if_pos (by omega)] at h
      exact h
    refine ⟨by omega, by omega, by omega, by omega, by omega, d6, (-1 * x4.toInt) - 1, by omega, ?_, ?_⟩
    · rw [show x2.toInt = -1 by omega]
      omega
    · rw [show x3.toInt = 1 by omega]
      omega)
  exact ⟨p, fun _ => rfl, ⟨(fun q h => by cases h), fun q h => (by cases h), (aAllc ⟨_, rfl, r0⟩ (fun f h => by cases h)), (aAllc ⟨_, rfl, (rF_b (r := 5477) (by decide) rfl).mpr q0⟩ (fun f h => by cases h))⟩, [], List.mem_cons_self, fun f h => (by cases h)⟩
theorem rw_rkRYnu {N : Int} {K : Nat → Nat} {n : Nat} {JX : (Nat → jcell) → Prop} : aGho (rH N K n) fa_T K n JX ag_rkRYnu := by
  refine aGho_of ⟨rfl, rfl⟩ ?_
  intro p σ ρ hH hX hA hM0
  have hG := aAG_of hA.1 (fun i e v he hv => (hA.2 i e v he hv).1)
  clear hA
  obtain ⟨v0, v1, v2, v3, v4, v5, rfl, g0, g1, g2, g3, g4, g5⟩ := rA_6 hG
  clear hG
  obtain ⟨x0, rfl, b0, d0⟩ := aG_int g0
  dsimp only at b0 d0
  obtain ⟨x1, rfl, b1, d1⟩ := aG_int g1
  dsimp only at b1 d1
  obtain ⟨x2, rfl, b2, d2⟩ := aG_int g2
  dsimp only at b2 d2
  obtain ⟨x3, rfl, b3, d3⟩ := aG_int g3
  dsimp only at b3 d3
  obtain ⟨x4, rfl, b4, d4⟩ := aG_int g4
  dsimp only at b4 d4
  obtain ⟨x5, rfl, b5, d5⟩ := aG_int g5
  dsimp only at b5 d5
  obtain ⟨m1, m2, m3, m4⟩ := hM0
  have l0 : 0 ≤ (1 * x4.toInt + (-1 * x1.toInt + 0)) + -1 := by
    obtain ⟨z, e6, e7⟩ := m3 ([(4, 1), (1, -1)], -1) (List.mem_of_getElem? (i := 0) rfl)
    obtain rfl : (1 * x4.toInt + (-1 * x1.toInt + 0)) = z := Option.some.inj (show some (1 * x4.toInt + (-1 * x1.toInt + 0)) = some z from e6)
    exact e7
  have f0 : rB3 N K n p 342 [rI x0, rI x1, rI x2, rI x3, rI x4] σ := by
    obtain ⟨w, e6, e7⟩ := m4 (5477, [0, 1, 2, 3, 4]) (List.mem_of_getElem? (i := 0) rfl)
    obtain rfl : [rI x0, rI x1, rI x2, rI x3, rI x4] = w := Option.some.inj (show some [rI x0, rI x1, rI x2, rI x3, rI x4] = some w from e6)
    exact (rF_b (r := 5477) (by decide) rfl).mp e7
  have f0 := ro3_342.mp f0
  have f1 : rB3 N K n p 120 [rI x4, rI x2, rI x3, rI x5] σ := by
    obtain ⟨w, e6, e7⟩ := m4 (1924, [4, 2, 3, 5]) (List.mem_of_getElem? (i := 1) rfl)
    obtain rfl : [rI x4, rI x2, rI x3, rI x5] = w := Option.some.inj (show some [rI x4, rI x2, rI x3, rI x5] = some w from e6)
    exact (rF_b (r := 1924) (by decide) rfl).mp e7
  have f1 := ro3_120.mp f1
  clear m1 m2 m3 m4
  have r0 : 0 ≤ (1 * x5.toInt + 0) + 0 := by
    obtain ⟨k2, k3, k4, k5, k6, k7, j, j0, j1, j2⟩ := f0
    have hf : x2.toInt = -1 ∨ x2.toInt = 0 ∨ x2.toInt = 1 := by omega
    have hr : x3.toInt = -1 ∨ x3.toInt = 0 ∨ x3.toInt = 1 := by omega
    have jn : 1 ≤ j := by
      by_cases cj : j = 0
      · rw [cj, Int.zero_mul] at j1 j2
        omega
      · omega
    have e : x5.toInt = x4.toInt + x2.toInt + 8 * x3.toInt := by
      rw [f1]
      unfold rSp
      rw [if_pos ?_]
      rcases hf with h | h | h <;> rcases hr with h2 | h2 | h2 <;> rw [h] at j1 <;> rw [h2] at j2 <;> rw [h, h2] <;> omega
    rcases hf with h | h | h <;> rcases hr with h2 | h2 | h2 <;> rw [h] at j1 e <;> rw [h2] at j2 e <;> omega
  have q0 : rB3 N K n p 342 [rI x0, rI x1, rI x2, rI x3, rI x5] σ := ro3_342.mpr (by
    obtain ⟨k2, k3, k4, k5, k6, k7, j, j0, j1, j2⟩ := f0
    have hf : x2.toInt = -1 ∨ x2.toInt = 0 ∨ x2.toInt = 1 := by omega
    have hr : x3.toInt = -1 ∨ x3.toInt = 0 ∨ x3.toInt = 1 := by omega
    have jn : 1 ≤ j := by
      by_cases cj : j = 0
      · rw [cj, Int.zero_mul] at j1 j2
        omega
      · omega
    have e : x5.toInt = x4.toInt + x2.toInt + 8 * x3.toInt := by
      rw [f1]
      unfold rSp
      rw [if_pos ?_]
      rcases hf with h | h | h <;> rcases hr with h2 | h2 | h2 <;> rw [h] at j1 <;> rw [h2] at j2 <;> rw [h, h2] <;> omega
    have h5 : 0 ≤ x5.toInt := by
      rcases hf with h | h | h <;> rcases hr with h2 | h2 | h2 <;> rw [h] at j1 e <;> rw [h2] at j2 e <;> omega
    have jf : (j - 1) * x2.toInt = j * x2.toInt - x2.toInt := by rw [Int.sub_mul, Int.one_mul]
    have jr : (j - 1) * x3.toInt = j * x3.toInt - x3.toInt := by rw [Int.sub_mul, Int.one_mul]
    refine ⟨k2, k3, k4, k5, h5, d5, j - 1, by omega, ?_, ?_⟩
    · have h6 : x5.toInt % 8 = x4.toInt % 8 + x2.toInt := by
        rcases hf with h | h | h <;> rcases hr with h2 | h2 | h2 <;> rw [h] at j1 e ⊢ <;> rw [h2] at j2 e <;> omega
      omega
    · have h6 : x5.toInt / 8 = x4.toInt / 8 + x3.toInt := by
        rcases hf with h | h | h <;> rcases hr with h2 | h2 | h2 <;> rw [h] at j1 e <;> rw [h2] at j2 e ⊢ <;> omega
      omega)
  exact ⟨p, fun _ => rfl, ⟨(fun q h => by cases h), fun q h => (by cases h), (aAllc ⟨_, rfl, r0⟩ (fun f h => by cases h)), (aAllc ⟨_, rfl, (rF_b (r := 5477) (by decide) rfl).mpr q0⟩ (fun f h => by cases h))⟩, [], List.mem_cons_self, fun f h => (by cases h)⟩
theorem rw_rkRYnd {N : Int} {K : Nat → Nat} {n : Nat} {JX : (Nat → jcell) → Prop} : aGho (rH N K n) fa_T K n JX ag_rkRYnd := by
  refine aGho_of ⟨rfl, rfl⟩ ?_
  intro p σ ρ hH hX hA hM0
  have hG := aAG_of hA.1 (fun i e v he hv => (hA.2 i e v he hv).1)
  clear hA
  obtain ⟨v0, v1, v2, v3, v4, v5, rfl, g0, g1, g2, g3, g4, g5⟩ := rA_6 hG
  clear hG
  obtain ⟨x0, rfl, b0, d0⟩ := aG_int g0
  dsimp only at b0 d0
  obtain ⟨x1, rfl, b1, d1⟩ := aG_int g1
  dsimp only at b1 d1
  obtain ⟨x2, rfl, b2, d2⟩ := aG_int g2
  dsimp only at b2 d2
  obtain ⟨x3, rfl, b3, d3⟩ := aG_int g3
  dsimp only at b3 d3
  obtain ⟨x4, rfl, b4, d4⟩ := aG_int g4
  dsimp only at b4 d4
  obtain ⟨x5, rfl, b5, d5⟩ := aG_int g5
  dsimp only at b5 d5
  obtain ⟨m1, m2, m3, m4⟩ := hM0
  have l0 : 0 ≤ (-1 * x4.toInt + (1 * x1.toInt + 0)) + -1 := by
    obtain ⟨z, e6, e7⟩ := m3 ([(4, -1), (1, 1)], -1) (List.mem_of_getElem? (i := 0) rfl)
    obtain rfl : (-1 * x4.toInt + (1 * x1.toInt + 0)) = z := Option.some.inj (show some (-1 * x4.toInt + (1 * x1.toInt + 0)) = some z from e6)
    exact e7
  have f0 : rB3 N K n p 342 [rI x0, rI x1, rI x2, rI x3, rI x4] σ := by
    obtain ⟨w, e6, e7⟩ := m4 (5477, [0, 1, 2, 3, 4]) (List.mem_of_getElem? (i := 0) rfl)
    obtain rfl : [rI x0, rI x1, rI x2, rI x3, rI x4] = w := Option.some.inj (show some [rI x0, rI x1, rI x2, rI x3, rI x4] = some w from e6)
    exact (rF_b (r := 5477) (by decide) rfl).mp e7
  have f0 := ro3_342.mp f0
  have f1 : rB3 N K n p 120 [rI x4, rI x2, rI x3, rI x5] σ := by
    obtain ⟨w, e6, e7⟩ := m4 (1924, [4, 2, 3, 5]) (List.mem_of_getElem? (i := 1) rfl)
    obtain rfl : [rI x4, rI x2, rI x3, rI x5] = w := Option.some.inj (show some [rI x4, rI x2, rI x3, rI x5] = some w from e6)
    exact (rF_b (r := 1924) (by decide) rfl).mp e7
  have f1 := ro3_120.mp f1
  clear m1 m2 m3 m4
  have r0 : 0 ≤ (1 * x5.toInt + 0) + 0 := by
    obtain ⟨k2, k3, k4, k5, k6, k7, j, j0, j1, j2⟩ := f0
    have hf : x2.toInt = -1 ∨ x2.toInt = 0 ∨ x2.toInt = 1 := by omega
    have hr : x3.toInt = -1 ∨ x3.toInt = 0 ∨ x3.toInt = 1 := by omega
    have jn : 1 ≤ j := by
      by_cases cj : j = 0
      · rw [cj, Int.zero_mul] at j1 j2
        omega
      · omega
    have e : x5.toInt = x4.toInt + x2.toInt + 8 * x3.toInt := by
      rw [f1]
      unfold rSp
      rw [if_pos ?_]
      rcases hf with h | h | h <;> rcases hr with h2 | h2 | h2 <;> rw [h] at j1 <;> rw [h2] at j2 <;> rw [h, h2] <;> omega
    rcases hf with h | h | h <;> rcases hr with h2 | h2 | h2 <;> rw [h] at j1 e <;> rw [h2] at j2 e <;> omega
  have q0 : rB3 N K n p 342 [rI x0, rI x1, rI x2, rI x3, rI x5] σ := ro3_342.mpr (by
    obtain ⟨k2, k3, k4, k5, k6, k7, j, j0, j1, j2⟩ := f0
    have hf : x2.toInt = -1 ∨ x2.toInt = 0 ∨ x2.toInt = 1 := by omega
    have hr : x3.toInt = -1 ∨ x3.toInt = 0 ∨ x3.toInt = 1 := by omega
    have jn : 1 ≤ j := by
      by_cases cj : j = 0
      · rw [cj, Int.zero_mul] at j1 j2
        omega
      · omega
    have e : x5.toInt = x4.toInt + x2.toInt + 8 * x3.toInt := by
      rw [f1]
      unfold rSp
      rw [if_pos ?_]
      rcases hf with h | h | h <;> rcases hr with h2 | h2 | h2 <;> rw [h] at j1 <;> rw [h2] at j2 <;> rw [h, h2] <;> omega
    have h5 : 0 ≤ x5.toInt := by
      rcases hf with h | h | h <;> rcases hr with h2 | h2 | h2 <;> rw [h] at j1 e <;> rw [h2] at j2 e <;> omega
    have jf : (j - 1) * x2.toInt = j * x2.toInt - x2.toInt := by rw [Int.sub_mul, Int.one_mul]
    have jr : (j - 1) * x3.toInt = j * x3.toInt - x3.toInt := by rw [Int.sub_mul, Int.one_mul]
    refine ⟨k2, k3, k4, k5, h5, d5, j - 1, by omega, ?_, ?_⟩
    · have h6 : x5.toInt % 8 = x4.toInt % 8 + x2.toInt := by
        rcases hf with h | h | h <;> rcases hr with h2 | h2 | h2 <;> rw [h] at j1 e ⊢ <;> rw [h2] at j2 e <;> omega
      omega
    · have h6 : x5.toInt / 8 = x4.toInt / 8 + x3.toInt := by
        rcases hf with h | h | h <;> rcases hr with h2 | h2 | h2 <;> rw [h] at j1 e <;> rw [h2] at j2 e ⊢ <;> omega
      omega)
  exact ⟨p, fun _ => rfl, ⟨(fun q h => by cases h), fun q h => (by cases h), (aAllc ⟨_, rfl, r0⟩ (fun f h => by cases h)), (aAllc ⟨_, rfl, (rF_b (r := 5477) (by decide) rfl).mpr q0⟩ (fun f h => by cases h))⟩, [], List.mem_cons_self, fun f h => (by cases h)⟩
theorem rw_rkRYq0 {N : Int} {K : Nat → Nat} {n : Nat} {JX : (Nat → jcell) → Prop} : aGho (rH N K n) fa_T K n JX ag_rkRYq0 := by
  refine aGho_of ⟨rfl, rfl⟩ ?_
  intro p σ ρ hH hX hA hM0
  have hG := aAG_of hA.1 (fun i e v he hv => (hA.2 i e v he hv).1)
  clear hA
  obtain ⟨v0, v1, v2, v3, v4, rfl, g0, g1, g2, g3, g4⟩ := rA_5 hG
  clear hG
  obtain ⟨x0, rfl, b0, d0⟩ := aG_int g0
  dsimp only at b0 d0
  obtain ⟨x1, rfl, b1, d1⟩ := aG_int g1
  dsimp only at b1 d1
  obtain ⟨x2, rfl, b2, d2⟩ := aG_int g2
  dsimp only at b2 d2
  obtain ⟨x3, rfl, b3, d3⟩ := aG_int g3
  dsimp only at b3 d3
  obtain ⟨x4, rfl, b4, d4⟩ := aG_int g4
  dsimp only at b4 d4
  obtain ⟨m1, m2, m3, m4⟩ := hM0
  have f0 : rB3 N K n p 342 [rI x0, rI x1, rI x2, rI x3, rI x4] σ := by
    obtain ⟨w, e6, e7⟩ := m4 (5477, [0, 1, 2, 3, 4]) (List.mem_of_getElem? (i := 0) rfl)
    obtain rfl : [rI x0, rI x1, rI x2, rI x3, rI x4] = w := Option.some.inj (show some [rI x0, rI x1, rI x2, rI x3, rI x4] = some w from e6)
    exact (rF_b (r := 5477) (by decide) rfl).mp e7
  have f0 := ro3_342.mp f0
  clear m1 m2 m3 m4
  have r0 : 0 ≤ (1 * x1.toInt + (-1 * x4.toInt + 0)) + 0 := by
    obtain ⟨k2, k3, k4, k5, k6, k7, j, j0, j1, j2⟩ := f0
    have hf : x2.toInt = -1 ∨ x2.toInt = 0 ∨ x2.toInt = 1 := by omega
    have hr : x3.toInt = -1 ∨ x3.toInt = 0 ∨ x3.toInt = 1 := by omega
    rcases hf with h | h | h <;> rcases hr with h2 | h2 | h2 <;> rw [h] at j1 <;> rw [h2] at j2 <;> omega
  exact ⟨p, fun _ => rfl, ⟨(fun q h => by cases h), fun q h => (by cases h), (aAllc ⟨_, rfl, r0⟩ (fun f h => by cases h)), (fun f h => by cases h)⟩, [], List.mem_cons_self, fun f h => (by cases h)⟩
theorem rw_rkRYq1 {N : Int} {K : Nat → Nat} {n : Nat} {JX : (Nat → jcell) → Prop} : aGho (rH N K n) fa_T K n JX ag_rkRYq1 := by
  refine aGho_of ⟨rfl, rfl⟩ ?_
  intro p σ ρ hH hX hA hM0
  have hG := aAG_of hA.1 (fun i e v he hv => (hA.2 i e v he hv).1)
  clear hA
  obtain ⟨v0, v1, v2, v3, v4, rfl, g0, g1, g2, g3, g4⟩ := rA_5 hG
  clear hG
  obtain ⟨x0, rfl, b0, d0⟩ := aG_int g0
  dsimp only at b0 d0
  obtain ⟨x1, rfl, b1, d1⟩ := aG_int g1
  dsimp only at b1 d1
  obtain ⟨x2, rfl, b2, d2⟩ := aG_int g2
  dsimp only at b2 d2
  obtain ⟨x3, rfl, b3, d3⟩ := aG_int g3
  dsimp only at b3 d3
  obtain ⟨x4, rfl, b4, d4⟩ := aG_int g4
  dsimp only at b4 d4
  obtain ⟨m1, m2, m3, m4⟩ := hM0
  have f0 : rB3 N K n p 342 [rI x0, rI x1, rI x2, rI x3, rI x4] σ := by
    obtain ⟨w, e6, e7⟩ := m4 (5477, [0, 1, 2, 3, 4]) (List.mem_of_getElem? (i := 0) rfl)
    obtain rfl : [rI x0, rI x1, rI x2, rI x3, rI x4] = w := Option.some.inj (show some [rI x0, rI x1, rI x2, rI x3, rI x4] = some w from e6)
    exact (rF_b (r := 5477) (by decide) rfl).mp e7
  have f0 := ro3_342.mp f0
  clear m1 m2 m3 m4
  have r0 : 0 ≤ (-1 * x1.toInt + (1 * x4.toInt + 0)) + 0 := by
    obtain ⟨k2, k3, k4, k5, k6, k7, j, j0, j1, j2⟩ := f0
    have hf : x2.toInt = -1 ∨ x2.toInt = 0 ∨ x2.toInt = 1 := by omega
    have hr : x3.toInt = -1 ∨ x3.toInt = 0 ∨ x3.toInt = 1 := by omega
    rcases hf with h | h | h <;> rcases hr with h2 | h2 | h2 <;> rw [h] at j1 <;> rw [h2] at j2 <;> omega
  exact ⟨p, fun _ => rfl, ⟨(fun q h => by cases h), fun q h => (by cases h), (aAllc ⟨_, rfl, r0⟩ (fun f h => by cases h)), (fun f h => by cases h)⟩, [], List.mem_cons_self, fun f h => (by cases h)⟩
theorem rw_rkRYq2 {N : Int} {K : Nat → Nat} {n : Nat} {JX : (Nat → jcell) → Prop} : aGho (rH N K n) fa_T K n JX ag_rkRYq2 := by
  refine aGho_of ⟨rfl, rfl⟩ ?_
  intro p σ ρ hH hX hA hM0
  have hG := aAG_of hA.1 (fun i e v he hv => (hA.2 i e v he hv).1)
  clear hA
  obtain ⟨v0, v1, v2, v3, v4, rfl, g0, g1, g2, g3, g4⟩ := rA_5 hG
  clear hG
  obtain ⟨x0, rfl, b0, d0⟩ := aG_int g0
  dsimp only at b0 d0
  obtain ⟨x1, rfl, b1, d1⟩ := aG_int g1
  dsimp only at b1 d1
  obtain ⟨x2, rfl, b2, d2⟩ := aG_int g2
  dsimp only at b2 d2
  obtain ⟨x3, rfl, b3, d3⟩ := aG_int g3
  dsimp only at b3 d3
  obtain ⟨x4, rfl, b4, d4⟩ := aG_int g4
  dsimp only at b4 d4
  obtain ⟨m1, m2, m3, m4⟩ := hM0
  have f0 : rB3 N K n p 342 [rI x0, rI x1, rI x2, rI x3, rI x4] σ := by
    obtain ⟨w, e6, e7⟩ := m4 (5477, [0, 1, 2, 3, 4]) (List.mem_of_getElem? (i := 0) rfl)
    obtain rfl : [rI x0, rI x1, rI x2, rI x3, rI x4] = w := Option.some.inj (show some [rI x0, rI x1, rI x2, rI x3, rI x4] = some w from e6)
    exact (rF_b (r := 5477) (by decide) rfl).mp e7
  have f0 := ro3_342.mp f0
  clear m1 m2 m3 m4
  have r0 : 0 ≤ (1 * x1.toInt + (-1 * x4.toInt + 0)) + 0 := by
    obtain ⟨k2, k3, k4, k5, k6, k7, j, j0, j1, j2⟩ := f0
    have hf : x2.toInt = -1 ∨ x2.toInt = 0 ∨ x2.toInt = 1 := by omega
    have hr : x3.toInt = -1 ∨ x3.toInt = 0 ∨ x3.toInt = 1 := by omega
    rcases hf with h | h | h <;> rcases hr with h2 | h2 | h2 <;> rw [h] at j1 <;> rw [h2] at j2 <;> omega
  exact ⟨p, fun _ => rfl, ⟨(fun q h => by cases h), fun q h => (by cases h), (aAllc ⟨_, rfl, r0⟩ (fun f h => by cases h)), (fun f h => by cases h)⟩, [], List.mem_cons_self, fun f h => (by cases h)⟩
theorem rw_rkRYq3 {N : Int} {K : Nat → Nat} {n : Nat} {JX : (Nat → jcell) → Prop} : aGho (rH N K n) fa_T K n JX ag_rkRYq3 := by
  refine aGho_of ⟨rfl, rfl⟩ ?_
  intro p σ ρ hH hX hA hM0
  have hG := aAG_of hA.1 (fun i e v he hv => (hA.2 i e v he hv).1)
  clear hA
  obtain ⟨v0, v1, v2, v3, v4, rfl, g0, g1, g2, g3, g4⟩ := rA_5 hG
  clear hG
  obtain ⟨x0, rfl, b0, d0⟩ := aG_int g0
  dsimp only at b0 d0
  obtain ⟨x1, rfl, b1, d1⟩ := aG_int g1
  dsimp only at b1 d1
  obtain ⟨x2, rfl, b2, d2⟩ := aG_int g2
  dsimp only at b2 d2
  obtain ⟨x3, rfl, b3, d3⟩ := aG_int g3
  dsimp only at b3 d3
  obtain ⟨x4, rfl, b4, d4⟩ := aG_int g4
  dsimp only at b4 d4
  obtain ⟨m1, m2, m3, m4⟩ := hM0
  have f0 : rB3 N K n p 342 [rI x0, rI x1, rI x2, rI x3, rI x4] σ := by
    obtain ⟨w, e6, e7⟩ := m4 (5477, [0, 1, 2, 3, 4]) (List.mem_of_getElem? (i := 0) rfl)
    obtain rfl : [rI x0, rI x1, rI x2, rI x3, rI x4] = w := Option.some.inj (show some [rI x0, rI x1, rI x2, rI x3, rI x4] = some w from e6)
    exact (rF_b (r := 5477) (by decide) rfl).mp e7
  have f0 := ro3_342.mp f0
  clear m1 m2 m3 m4
  have r0 : 0 ≤ (-1 * x1.toInt + (1 * x4.toInt + 0)) + 0 := by
    obtain ⟨k2, k3, k4, k5, k6, k7, j, j0, j1, j2⟩ := f0
    have hf : x2.toInt = -1 ∨ x2.toInt = 0 ∨ x2.toInt = 1 := by omega
    have hr : x3.toInt = -1 ∨ x3.toInt = 0 ∨ x3.toInt = 1 := by omega
    rcases hf with h | h | h <;> rcases hr with h2 | h2 | h2 <;> rw [h] at j1 <;> rw [h2] at j2 <;> omega
  exact ⟨p, fun _ => rfl, ⟨(fun q h => by cases h), fun q h => (by cases h), (aAllc ⟨_, rfl, r0⟩ (fun f h => by cases h)), (fun f h => by cases h)⟩, [], List.mem_cons_self, fun f h => (by cases h)⟩
theorem rw_rkU0 {N : Int} {K : Nat → Nat} {n : Nat} {JX : (Nat → jcell) → Prop} : aGho (rH N K n) fa_T K n JX ag_rkU0 := by
  refine aGho_of ⟨rfl, rfl⟩ ?_
  intro p σ ρ hH hX hA hM0
  have hG := aAG_of hA.1 (fun i e v he hv => (hA.2 i e v he hv).1)
  clear hA
  obtain ⟨v0, v1, rfl, g0, g1⟩ := rA_2 hG
  clear hG
  obtain ⟨x0, rfl, b0, d0⟩ := rG_ref (by decide) g0
  obtain ⟨x1, rfl, b1, d1⟩ := aG_int g1
  dsimp only at b1 d1
  obtain ⟨m1, m2, m3, m4⟩ := hM0
  obtain ⟨T, hT⟩ := rTe_ex hH b0 d0
  clear m1 m2 m3 m4
  have q0 : rB3 N K n p 344 [rR x0, rI x1] σ := ro3_344.mpr (by
    intro h
    omega)
  exact ⟨p, fun _ => rfl, ⟨(fun q h => by cases h), fun q h => (by cases h), (fun f h => by cases h), (aAllc ⟨_, rfl, (rF_b (r := 5506) (by decide) rfl).mpr q0⟩ (fun f h => by cases h))⟩, [], List.mem_cons_self, fun f h => (by cases h)⟩
theorem rw_rkUy {N : Int} {K : Nat → Nat} {n : Nat} {JX : (Nat → jcell) → Prop} : aGho (rH N K n) fa_T K n JX ag_rkUy := by
  refine aGho_of ⟨rfl, rfl⟩ ?_
  intro p σ ρ hH hX hA hM0
  have hG := aAG_of hA.1 (fun i e v he hv => (hA.2 i e v he hv).1)
  clear hA
  obtain ⟨v0, v1, v2, v3, v4, rfl, g0, g1, g2, g3, g4⟩ := rA_5 hG
  clear hG
  obtain ⟨x0, rfl, b0, d0⟩ := rG_ref (by decide) g0
  obtain ⟨x1, rfl, b1, d1⟩ := aG_int g1
  dsimp only at b1 d1
  obtain ⟨x2, rfl, b2, d2⟩ := aG_int g2
  dsimp only at b2 d2
  obtain ⟨x3, rfl, b3, d3⟩ := aG_int g3
  dsimp only at b3 d3
  obtain ⟨x4, rfl, b4, d4⟩ := rG_ref (by decide) g4
  obtain ⟨m1, m2, m3, m4⟩ := hM0
  obtain ⟨T, hT⟩ := rTe_ex hH b0 d0
  obtain ⟨a0, c0, fs0, w0, e1, s0, t0, e4⟩ := m1 (0, 32, 4) (List.mem_of_getElem? (i := 0) rfl)
  obtain rfl : x0 = a0 := Sum.inl.inj (Option.some.inj (Sum.inr.inj (Sum.inr.inj (Option.some.inj (show some (rR x0) = some _ from e1)))))
  obtain rfl : rR x4 = w0 := Option.some.inj (show some (rR x4) = some w0 from e4)
  clear e1 e4
  obtain ⟨a1, c1, fs1, w1, e1, s1, t1, e4⟩ := m1 (0, 33, 3) (List.mem_of_getElem? (i := 1) rfl)
  obtain rfl : x0 = a1 := Sum.inl.inj (Option.some.inj (Sum.inr.inj (Sum.inr.inj (Option.some.inj (show some (rR x0) = some _ from e1)))))
  obtain rfl : rI x3 = w1 := Option.some.inj (show some (rI x3) = some w1 from e4)
  clear e1 e4
  obtain ⟨a, mc0, ty0, gc0, ic0, e1, sc0, jc0, e4, e5⟩ := m2 (4, ([(1, 1)], 0), 2) (List.mem_of_getElem? (i := 0) rfl)
  obtain rfl : x4 = a := Sum.inl.inj (Option.some.inj (Sum.inr.inj (Sum.inr.inj (Option.some.inj (show some (rR x4) = some _ from e1)))))
  obtain ⟨gc0, rfl⟩ : ∃ g, gc0 = .inl g := by
    rcases gc0 with g | g
    · exact ⟨g, rfl⟩
    · exact absurd (show some (rI x2) = some (.inr (.inl (g ic0))) from e5) (fun h => by cases h)
  have sc0 : σ x4 = .inl (ty0, mc0, .inl gc0) := sc0
  have ec0 : x2 = gc0 ic0 := Sum.inl.inj (Option.some.inj (show some (rI x2) = some _ from e5))
  have kc0 : (ic0 : Int) = (1 * x1.toInt + 0) + 0 := by
    obtain ⟨z, e6, e7⟩ := e4
    obtain rfl : (1 * x1.toInt + 0) = z := Option.some.inj (show some (1 * x1.toInt + 0) = some z from e6)
    exact e7
  clear e1 e4 e5
  have l0 : 0 ≤ (1 * x3.toInt + (-1 * x1.toInt + 0)) + -1 := by
    obtain ⟨z, e6, e7⟩ := m3 ([(3, 1), (1, -1)], -1) (List.mem_of_getElem? (i := 0) rfl)
    obtain rfl : (1 * x3.toInt + (-1 * x1.toInt + 0)) = z := Option.some.inj (show some (1 * x3.toInt + (-1 * x1.toInt + 0)) = some z from e6)
    exact e7
  clear m1 m2 m3 m4
  have q0 : rB3 N K n p 344 [rR x0, rI x2] σ := ro3_344.mpr (by
    intro _
    obtain ⟨g, r⟩ := rRo_ex (ko := 62) (f := 32) (kr := 85) (len := 2048) hH rfl rfl rfl (by decide) b0 d0
    have e := rRo_c (i := ic0) r s0 t0 sc0 ec0
    exact ⟨g, x3, r, ⟨b0, d0, _, _, s1, t1⟩, x1.toInt, b1, by omega, by rw [show x1.toInt.toNat = ic0 by omega]; exact e⟩)
  exact ⟨p, fun _ => rfl, ⟨(fun q h => by cases h), fun q h => (by cases h), (fun f h => by cases h), (aAllc ⟨_, rfl, (rF_b (r := 5506) (by decide) rfl).mpr q0⟩ (fun f h => by cases h))⟩, [], List.mem_cons_self, fun f h => (by cases h)⟩
theorem rw_rkUe {N : Int} {K : Nat → Nat} {n : Nat} {JX : (Nat → jcell) → Prop} : aGho (rH N K n) fa_T K n JX ag_rkUe := by
  refine aGho_of ⟨rfl, rfl⟩ ?_
  intro p σ ρ hH hX hA hM0
  have hG := aAG_of hA.1 (fun i e v he hv => (hA.2 i e v he hv).1)
  clear hA
  obtain ⟨v0, v1, rfl, g0, g1⟩ := rA_2 hG
  clear hG
  obtain ⟨x0, rfl, b0, d0⟩ := rG_ref (by decide) g0
  obtain ⟨x1, rfl, b1, d1⟩ := aG_int g1
  dsimp only at b1 d1
  obtain ⟨m1, m2, m3, m4⟩ := hM0
  obtain ⟨T, hT⟩ := rTe_ex hH b0 d0
  have f0 : rB3 N K n p 344 [rR x0, rI x1] σ := by
    obtain ⟨w, e6, e7⟩ := m4 (5506, [0, 1]) (List.mem_of_getElem? (i := 0) rfl)
    obtain rfl : [rR x0, rI x1] = w := Option.some.inj (show some [rR x0, rI x1] = some w from e6)
    exact (rF_b (r := 5506) (by decide) rfl).mp e7
  have f0 := ro3_344.mp f0
  clear m1 m2 m3 m4
  have q0 : rB3 N K n p 343 [rR x0, rI x1] σ := ro3_343.mpr (by
    exact f0)
  exact ⟨p, fun _ => rfl, ⟨(fun q h => by cases h), fun q h => (by cases h), (fun f h => by cases h), (aAllc ⟨_, rfl, (rF_b (r := 5490) (by decide) rfl).mpr q0⟩ (fun f h => by cases h))⟩, [], List.mem_cons_self, fun f h => (by cases h)⟩
theorem rw_rkUn {N : Int} {K : Nat → Nat} {n : Nat} {JX : (Nat → jcell) → Prop} : aGho (rH N K n) fa_T K n JX ag_rkUn := by
  refine aGho_of ⟨rfl, rfl⟩ ?_
  intro p σ ρ hH hX hA hM0
  have hG := aAG_of hA.1 (fun i e v he hv => (hA.2 i e v he hv).1)
  clear hA
  obtain ⟨v0, v1, rfl, g0, g1⟩ := rA_2 hG
  clear hG
  obtain ⟨x0, rfl, b0, d0⟩ := rG_ref (by decide) g0
  obtain ⟨x1, rfl, b1, d1⟩ := aG_int g1
  dsimp only at b1 d1
  obtain ⟨m1, m2, m3, m4⟩ := hM0
  obtain ⟨T, hT⟩ := rTe_ex hH b0 d0
  clear m1 m2 m3 m4
  have q0 : rB3 N K n p 343 [rR x0, rI x1] σ := ro3_343.mpr (by
    intro h
    omega)
  exact ⟨p, fun _ => rfl, ⟨(fun q h => by cases h), fun q h => (by cases h), (fun f h => by cases h), (aAllc ⟨_, rfl, (rF_b (r := 5490) (by decide) rfl).mpr q0⟩ (fun f h => by cases h))⟩, [], List.mem_cons_self, fun f h => (by cases h)⟩
theorem rw_rlL0 {N : Int} {K : Nat → Nat} {n : Nat} {JX : (Nat → jcell) → Prop} : aGho (rH N K n) fa_T K n JX ag_rlL0 := by
  refine aGho_of ⟨rfl, rfl⟩ ?_
  intro p σ ρ hH hX hA hM0
  have hG := aAG_of hA.1 (fun i e v he hv => (hA.2 i e v he hv).1)
  clear hA
  obtain ⟨v0, v1, v2, v3, rfl, g0, g1, g2, g3⟩ := rA_4 hG
  clear hG
  obtain ⟨x0, rfl, b0, d0⟩ := rG_ref (by decide) g0
  obtain ⟨x1, rfl, b1, d1⟩ := aG_int g1
  dsimp only at b1 d1
  obtain ⟨x2, rfl, b2, d2⟩ := aG_int g2
  dsimp only at b2 d2
  obtain ⟨x3, rfl, b3, d3⟩ := aG_int g3
  dsimp only at b3 d3
  obtain ⟨m1, m2, m3, m4⟩ := hM0
  obtain ⟨T, hT⟩ := rTe_ex hH b0 d0
  obtain ⟨a0, c0, fs0, w0, e1, s0, t0, e4⟩ := m1 (0, 37, 2) (List.mem_of_getElem? (i := 0) rfl)
  obtain rfl : x0 = a0 := Sum.inl.inj (Option.some.inj (Sum.inr.inj (Sum.inr.inj (Option.some.inj (show some (rR x0) = some _ from e1)))))
  obtain rfl : rI x2 = w0 := Option.some.inj (show some (rI x2) = some w0 from e4)
  clear e1 e4
  obtain ⟨a1, c1, fs1, w1, e1, s1, t1, e4⟩ := m1 (0, 1, 3) (List.mem_of_getElem? (i := 1) rfl)
  obtain rfl : x0 = a1 := Sum.inl.inj (Option.some.inj (Sum.inr.inj (Sum.inr.inj (Option.some.inj (show some (rR x0) = some _ from e1)))))
  obtain rfl : rI x3 = w1 := Option.some.inj (show some (rI x3) = some w1 from e4)
  clear e1 e4
  have l0 : 0 ≤ (1 * x2.toInt + (-1 * x3.toInt + 0)) + 0 := by
    obtain ⟨z, e6, e7⟩ := m3 ([(2, 1), (3, -1)], 0) (List.mem_of_getElem? (i := 0) rfl)
    obtain rfl : (1 * x2.toInt + (-1 * x3.toInt + 0)) = z := Option.some.inj (show some (1 * x2.toInt + (-1 * x3.toInt + 0)) = some z from e6)
    exact e7
  clear m1 m2 m3 m4
  have q0 : rB3 N K n p 348 [rR x0, rI x1] σ := ro3_348.mpr (by
    obtain ⟨g, h⟩ := rTxt_ex hH b0 d0
    exact ⟨g, x2, x3, ⟨h, ⟨b0, d0, _, _, s0, t0⟩, ⟨b0, d0, _, _, s1, t1⟩⟩, by unfold rLk9; rw [if_neg (by omega)]; omega⟩)
  exact ⟨p, fun _ => rfl, ⟨(fun q h => by cases h), fun q h => (by cases h), (fun f h => by cases h), (aAllc ⟨_, rfl, (rF_b (r := 5570) (by decide) rfl).mpr q0⟩ (fun f h => by cases h))⟩, [], List.mem_cons_self, fun f h => (by cases h)⟩
theorem rw_rlL1 {N : Int} {K : Nat → Nat} {n : Nat} {JX : (Nat → jcell) → Prop} : aGho (rH N K n) fa_T K n JX ag_rlL1 := by
  refine aGho_of ⟨rfl, rfl⟩ ?_
  intro p σ ρ hH hX hA hM0
  have hG := aAG_of hA.1 (fun i e v he hv => (hA.2 i e v he hv).1)
  clear hA
  obtain ⟨v0, v1, v2, v3, v4, rfl, g0, g1, g2, g3, g4⟩ := rA_5 hG
  clear hG
  obtain ⟨x0, rfl, b0, d0⟩ := rG_ref (by decide) g0
  obtain ⟨x1, rfl, b1, d1⟩ := aG_int g1
  dsimp only at b1 d1
  obtain ⟨x2, rfl, b2, d2⟩ := aG_int g2
  dsimp only at b2 d2
  obtain ⟨x3, rfl, b3, d3⟩ := aG_int g3
  dsimp only at b3 d3
  obtain ⟨x4, rfl, b4, d4⟩ := rG_ref (by decide) g4
  obtain ⟨m1, m2, m3, m4⟩ := hM0
  obtain ⟨T, hT⟩ := rTe_ex hH b0 d0
  obtain ⟨a0, c0, fs0, w0, e1, s0, t0, e4⟩ := m1 (0, 2, 4) (List.mem_of_getElem? (i := 0) rfl)
  obtain rfl : x0 = a0 := Sum.inl.inj (Option.some.inj (Sum.inr.inj (Sum.inr.inj (Option.some.inj (show some (rR x0) = some _ from e1)))))
  obtain rfl : rR x4 = w0 := Option.some.inj (show some (rR x4) = some w0 from e4)
  clear e1 e4
  obtain ⟨a1, c1, fs1, w1, e1, s1, t1, e4⟩ := m1 (0, 37, 2) (List.mem_of_getElem? (i := 1) rfl)
  obtain rfl : x0 = a1 := Sum.inl.inj (Option.some.inj (Sum.inr.inj (Sum.inr.inj (Option.some.inj (show some (rR x0) = some _ from e1)))))
  obtain rfl : rI x2 = w1 := Option.some.inj (show some (rI x2) = some w1 from e4)
  clear e1 e4
  obtain ⟨a2, c2, fs2, w2, e1, s2, t2, e4⟩ := m1 (0, 1, 3) (List.mem_of_getElem? (i := 2) rfl)
  obtain rfl : x0 = a2 := Sum.inl.inj (Option.some.inj (Sum.inr.inj (Sum.inr.inj (Option.some.inj (show some (rR x0) = some _ from e1)))))
  obtain rfl : rI x3 = w2 := Option.some.inj (show some (rI x3) = some w2 from e4)
  clear e1 e4
  obtain ⟨a, mc0, ty0, gc0, ic0, e1, sc0, jc0, e4, e5⟩ := m2 (4, ([(2, 1)], 0), 1) (List.mem_of_getElem? (i := 0) rfl)
  obtain rfl : x4 = a := Sum.inl.inj (Option.some.inj (Sum.inr.inj (Sum.inr.inj (Option.some.inj (show some (rR x4) = some _ from e1)))))
  obtain ⟨gc0, rfl⟩ : ∃ g, gc0 = .inl g := by
    rcases gc0 with g | g
    · exact ⟨g, rfl⟩
    · exact absurd (show some (rI x1) = some (.inr (.inl (g ic0))) from e5) (fun h => by cases h)
  have sc0 : σ x4 = .inl (ty0, mc0, .inl gc0) := sc0
  have ec0 : x1 = gc0 ic0 := Sum.inl.inj (Option.some.inj (show some (rI x1) = some _ from e5))
  have kc0 : (ic0 : Int) = (1 * x2.toInt + 0) + 0 := by
    obtain ⟨z, e6, e7⟩ := e4
    obtain rfl : (1 * x2.toInt + 0) = z := Option.some.inj (show some (1 * x2.toInt + 0) = some z from e6)
    exact e7
  clear e1 e4 e5
  have l0 : 0 ≤ (1 * x3.toInt + (-1 * x2.toInt + 0)) + -1 := by
    obtain ⟨z, e6, e7⟩ := m3 ([(3, 1), (2, -1)], -1) (List.mem_of_getElem? (i := 0) rfl)
    obtain rfl : (1 * x3.toInt + (-1 * x2.toInt + 0)) = z := Option.some.inj (show some (1 * x3.toInt + (-1 * x2.toInt + 0)) = some z from e6)
    exact e7
  clear m1 m2 m3 m4
  have q0 : rB3 N K n p 348 [rR x0, rI x1] σ := ro3_348.mpr (by
    obtain ⟨g, h⟩ := rTxt_ex hH b0 d0
    have e := rCh9_c (i := ic0) h s0 t0 sc0 ec0
    exact ⟨g, x2, x3, ⟨h, ⟨b0, d0, _, _, s1, t1⟩, ⟨b0, d0, _, _, s2, t2⟩⟩, by unfold rLk9; rw [if_pos (by omega), show x2.toInt.toNat = ic0 by omega]; exact e.symm⟩)
  exact ⟨p, fun _ => rfl, ⟨(fun q h => by cases h), fun q h => (by cases h), (fun f h => by cases h), (aAllc ⟨_, rfl, (rF_b (r := 5570) (by decide) rfl).mpr q0⟩ (fun f h => by cases h))⟩, [], List.mem_cons_self, fun f h => (by cases h)⟩
theorem rw_rlLe {N : Int} {K : Nat → Nat} {n : Nat} {JX : (Nat → jcell) → Prop} : aGho (rH N K n) fa_T K n JX ag_rlLe := by
  refine aGho_of ⟨rfl, rfl⟩ ?_
  intro p σ ρ hH hX hA hM0
  have hG := aAG_of hA.1 (fun i e v he hv => (hA.2 i e v he hv).1)
  clear hA
  obtain ⟨v0, v1, v2, rfl, g0, g1, g2⟩ := rA_3 hG
  clear hG
  obtain ⟨x0, rfl, b0, d0⟩ := rG_ref (by decide) g0
  obtain ⟨x1, rfl, b1, d1⟩ := aG_int g1
  dsimp only at b1 d1
  obtain ⟨x2, rfl, b2, d2⟩ := aG_int g2
  dsimp only at b2 d2
  obtain ⟨m1, m2, m3, m4⟩ := hM0
  obtain ⟨T, hT⟩ := rTe_ex hH b0 d0
  have f0 : rB3 N K n p 348 [rR x0, rI x1] σ := by
    obtain ⟨w, e6, e7⟩ := m4 (5570, [0, 1]) (List.mem_of_getElem? (i := 0) rfl)
    obtain rfl : [rR x0, rI x1] = w := Option.some.inj (show some [rR x0, rI x1] = some w from e6)
    exact (rF_b (r := 5570) (by decide) rfl).mp e7
  have f0 := ro3_348.mp f0
  have f1 : rB3 N K n p 348 [rR x0, rI x2] σ := by
    obtain ⟨w, e6, e7⟩ := m4 (5570, [0, 2]) (List.mem_of_getElem? (i := 1) rfl)
    obtain rfl : [rR x0, rI x2] = w := Option.some.inj (show some [rR x0, rI x2] = some w from e6)
    exact (rF_b (r := 5570) (by decide) rfl).mp e7
  have f1 := ro3_348.mp f1
  clear m1 m2 m3 m4
  have r0 : 0 ≤ (1 * x1.toInt + (-1 * x2.toInt + 0)) + 0 := by
    obtain ⟨g, t, e, h1, h2⟩ := f0
    obtain ⟨g', t', e', h1', h2'⟩ := f1
    obtain ⟨rfl, rfl, rfl⟩ := rAt9_u h1 h1'
    omega
  have r1 : 0 ≤ (-1 * x1.toInt + (1 * x2.toInt + 0)) + 0 := by
    obtain ⟨g, t, e, h1, h2⟩ := f0
    obtain ⟨g', t', e', h1', h2'⟩ := f1
    obtain ⟨rfl, rfl, rfl⟩ := rAt9_u h1 h1'
    omega
  exact ⟨p, fun _ => rfl, ⟨(fun q h => by cases h), fun q h => (by cases h), (aAllc ⟨_, rfl, r0⟩ (aAllc ⟨_, rfl, r1⟩ (fun f h => by cases h))), (fun f h => by cases h)⟩, [], List.mem_cons_self, fun f h => (by cases h)⟩
theorem rw_rlAT {N : Int} {K : Nat → Nat} {n : Nat} {JX : (Nat → jcell) → Prop} : aGho (rH N K n) fa_T K n JX ag_rlAT := by
  refine aGho_of ⟨rfl, rfl⟩ ?_
  intro p σ ρ hH hX hA hM0
  have hG := aAG_of hA.1 (fun i e v he hv => (hA.2 i e v he hv).1)
  clear hA
  obtain ⟨v0, rfl, g0⟩ := rA_1 hG
  clear hG
  obtain ⟨x0, rfl, b0, d0⟩ := aG_int g0
  dsimp only at b0 d0
  obtain ⟨m1, m2, m3, m4⟩ := hM0
  have l0 : 0 ≤ (-1 * x0.toInt + 0) + 65535 := by
    obtain ⟨z, e6, e7⟩ := m3 ([(0, -1)], 65535) (List.mem_of_getElem? (i := 0) rfl)
    obtain rfl : (-1 * x0.toInt + 0) = z := Option.some.inj (show some (-1 * x0.toInt + 0) = some z from e6)
    exact e7
  clear m1 m2 m3 m4
  have r0 : 0 ≤ (-1 * x0.toInt + 0) + 65535 := by
    omega
  exact ⟨p, fun _ => rfl, ⟨(fun q h => by cases h), fun q h => (by cases h), (aAllc ⟨_, rfl, r0⟩ (fun f h => by cases h)), (fun f h => by cases h)⟩, [], List.mem_cons_self, fun f h => (by cases h)⟩
theorem rw_rlAU {N : Int} {K : Nat → Nat} {n : Nat} {JX : (Nat → jcell) → Prop} : aGho (rH N K n) fa_T K n JX ag_rlAU := by
  refine aGho_of ⟨rfl, rfl⟩ ?_
  intro p σ ρ hH hX hA hM0
  have hG := aAG_of hA.1 (fun i e v he hv => (hA.2 i e v he hv).1)
  clear hA
  obtain ⟨v0, rfl, g0⟩ := rA_1 hG
  clear hG
  obtain ⟨x0, rfl, b0, d0⟩ := aG_int g0
  dsimp only at b0 d0
  obtain ⟨m1, m2, m3, m4⟩ := hM0
  have l0 : 0 ≤ (-1 * x0.toInt + 0) + 65536 := by
    obtain ⟨z, e6, e7⟩ := m3 ([(0, -1)], 65536) (List.mem_of_getElem? (i := 0) rfl)
    obtain rfl : (-1 * x0.toInt + 0) = z := Option.some.inj (show some (-1 * x0.toInt + 0) = some z from e6)
    exact e7
  clear m1 m2 m3 m4
  have r0 : 0 ≤ (-1 * x0.toInt + 0) + 65536 := by
    omega
  exact ⟨p, fun _ => rfl, ⟨(fun q h => by cases h), fun q h => (by cases h), (aAllc ⟨_, rfl, r0⟩ (fun f h => by cases h)), (fun f h => by cases h)⟩, [], List.mem_cons_self, fun f h => (by cases h)⟩
theorem rw_rlM3 {N : Int} {K : Nat → Nat} {n : Nat} {JX : (Nat → jcell) → Prop} : aGho (rH N K n) fa_T K n JX ag_rlM3 := by
  refine aGho_of ⟨rfl, rfl⟩ ?_
  intro p σ ρ hH hX hA hM0
  have hG := aAG_of hA.1 (fun i e v he hv => (hA.2 i e v he hv).1)
  clear hA
  obtain ⟨v0, v1, v2, v3, v4, rfl, g0, g1, g2, g3, g4⟩ := rA_5 hG
  clear hG
  obtain ⟨x0, rfl, b0, d0⟩ := rG_ref (by decide) g0
  obtain ⟨x1, rfl, b1, d1⟩ := aG_int g1
  dsimp only at b1 d1
  obtain ⟨x2, rfl, b2, d2⟩ := aG_int g2
  dsimp only at b2 d2
  obtain ⟨x3, rfl, b3, d3⟩ := aG_int g3
  dsimp only at b3 d3
  obtain ⟨x4, rfl, b4, d4⟩ := rG_ref (by decide) g4
  obtain ⟨m1, m2, m3, m4⟩ := hM0
  obtain ⟨T, hT⟩ := rTe_ex hH b0 d0
  obtain ⟨a0, c0, fs0, w0, e1, s0, t0, e4⟩ := m1 (0, 12, 4) (List.mem_of_getElem? (i := 0) rfl)
  obtain rfl : x0 = a0 := Sum.inl.inj (Option.some.inj (Sum.inr.inj (Sum.inr.inj (Option.some.inj (show some (rR x0) = some _ from e1)))))
  obtain rfl : rR x4 = w0 := Option.some.inj (show some (rR x4) = some w0 from e4)
  clear e1 e4
  obtain ⟨a, mc0, ty0, gc0, ic0, e1, sc0, jc0, e4, e5⟩ := m2 (4, ([(1, 301), (2, 1)], 0), 3) (List.mem_of_getElem? (i := 0) rfl)
  obtain rfl : x4 = a := Sum.inl.inj (Option.some.inj (Sum.inr.inj (Sum.inr.inj (Option.some.inj (show some (rR x4) = some _ from e1)))))
  obtain ⟨gc0, rfl⟩ : ∃ g, gc0 = .inl g := by
    rcases gc0 with g | g
    · exact ⟨g, rfl⟩
    · exact absurd (show some (rI x3) = some (.inr (.inl (g ic0))) from e5) (fun h => by cases h)
  have sc0 : σ x4 = .inl (ty0, mc0, .inl gc0) := sc0
  have ec0 : x3 = gc0 ic0 := Sum.inl.inj (Option.some.inj (show some (rI x3) = some _ from e5))
  have kc0 : (ic0 : Int) = (301 * x1.toInt + (1 * x2.toInt + 0)) + 0 := by
    obtain ⟨z, e6, e7⟩ := e4
    obtain rfl : (301 * x1.toInt + (1 * x2.toInt + 0)) = z := Option.some.inj (show some (301 * x1.toInt + (1 * x2.toInt + 0)) = some z from e6)
    exact e7
  clear e1 e4 e5
  have f0 : rB3 N K n p 346 [rR x0, rI x1, rI x2] σ := by
    obtain ⟨w, e6, e7⟩ := m4 (5539, [0, 1, 2]) (List.mem_of_getElem? (i := 0) rfl)
    obtain rfl : [rR x0, rI x1, rI x2] = w := Option.some.inj (show some [rR x0, rI x1, rI x2] = some w from e6)
    exact (rF_b (r := 5539) (by decide) rfl).mp e7
  have f0 := ro3_346.mp f0
  clear m1 m2 m3 m4
  have r0 : 0 ≤ (-1 * x3.toInt + 0) + 3 := by
    obtain ⟨k0, g, r, e⟩ := f0
    have e2 := rRo_c (i := ic0) r s0 t0 sc0 ec0
    rw [show ic0 = (301 * x1.toInt + x2.toInt).toNat by omega] at e2
    omega
  exact ⟨p, fun _ => rfl, ⟨(fun q h => by cases h), fun q h => (by cases h), (aAllc ⟨_, rfl, r0⟩ (fun f h => by cases h)), (fun f h => by cases h)⟩, [], List.mem_cons_self, fun f h => (by cases h)⟩
theorem rw_rlMZ {N : Int} {K : Nat → Nat} {n : Nat} {JX : (Nat → jcell) → Prop} : aGho (rH N K n) fa_T K n JX ag_rlMZ := by
  refine aGho_of ⟨rfl, rfl⟩ ?_
  intro p σ ρ hH hX hA hM0
  have hG := aAG_of hA.1 (fun i e v he hv => (hA.2 i e v he hv).1)
  clear hA
  obtain ⟨v0, v1, v2, rfl, g0, g1, g2⟩ := rA_3 hG
  clear hG
  obtain ⟨x0, rfl, b0, d0⟩ := rG_ref (by decide) g0
  obtain ⟨x1, rfl, b1, d1⟩ := aG_int g1
  dsimp only at b1 d1
  obtain ⟨x2, rfl, b2, d2⟩ := aG_int g2
  dsimp only at b2 d2
  obtain ⟨m1, m2, m3, m4⟩ := hM0
  obtain ⟨T, hT⟩ := rTe_ex hH b0 d0
  have f0 : rB3 N K n p 345 [rR x0, rI x1, rI x2] σ := by
    obtain ⟨w, e6, e7⟩ := m4 (5523, [0, 1, 2]) (List.mem_of_getElem? (i := 0) rfl)
    obtain rfl : [rR x0, rI x1, rI x2] = w := Option.some.inj (show some [rR x0, rI x1, rI x2] = some w from e6)
    exact (rF_b (r := 5523) (by decide) rfl).mp e7
  have f0 := ro3_345.mp f0
  clear m1 m2 m3 m4
  have q0 : rB3 N K n p 346 [rR x0, rI x1, rI x2] σ := ro3_346.mpr (by
    obtain ⟨k0, g, r, e⟩ := f0
    exact ⟨k0, g, r, by omega⟩)
  exact ⟨p, fun _ => rfl, ⟨(fun q h => by cases h), fun q h => (by cases h), (fun f h => by cases h), (aAllc ⟨_, rfl, (rF_b (r := 5539) (by decide) rfl).mpr q0⟩ (fun f h => by cases h))⟩, [], List.mem_cons_self, fun f h => (by cases h)⟩
theorem rw_rlMc {N : Int} {K : Nat → Nat} {n : Nat} {JX : (Nat → jcell) → Prop} : aGho (rH N K n) fa_T K n JX ag_rlMc := by
  refine aGho_of ⟨rfl, rfl⟩ ?_
  intro p σ ρ hH hX hA hM0
  have hG := aAG_of hA.1 (fun i e v he hv => (hA.2 i e v he hv).1)
  clear hA
  obtain ⟨v0, v1, v2, v3, v4, rfl, g0, g1, g2, g3, g4⟩ := rA_5 hG
  clear hG
  obtain ⟨x0, rfl, b0, d0⟩ := rG_ref (by decide) g0
  obtain ⟨x1, rfl, b1, d1⟩ := aG_int g1
  dsimp only at b1 d1
  obtain ⟨x2, rfl, b2, d2⟩ := aG_int g2
  dsimp only at b2 d2
  obtain ⟨x3, rfl, b3, d3⟩ := aG_int g3
  dsimp only at b3 d3
  obtain ⟨x4, rfl, b4, d4⟩ := rG_ref (by decide) g4
  obtain ⟨m1, m2, m3, m4⟩ := hM0
  obtain ⟨T, hT⟩ := rTe_ex hH b0 d0
  obtain ⟨a0, c0, fs0, w0, e1, s0, t0, e4⟩ := m1 (0, 12, 4) (List.mem_of_getElem? (i := 0) rfl)
  obtain rfl : x0 = a0 := Sum.inl.inj (Option.some.inj (Sum.inr.inj (Sum.inr.inj (Option.some.inj (show some (rR x0) = some _ from e1)))))
  obtain rfl : rR x4 = w0 := Option.some.inj (show some (rR x4) = some w0 from e4)
  clear e1 e4
  obtain ⟨a, mc0, ty0, gc0, ic0, e1, sc0, jc0, e4, e5⟩ := m2 (4, ([(1, 301), (2, 1)], 0), 3) (List.mem_of_getElem? (i := 0) rfl)
  obtain rfl : x4 = a := Sum.inl.inj (Option.some.inj (Sum.inr.inj (Sum.inr.inj (Option.some.inj (show some (rR x4) = some _ from e1)))))
  obtain ⟨gc0, rfl⟩ : ∃ g, gc0 = .inl g := by
    rcases gc0 with g | g
    · exact ⟨g, rfl⟩
    · exact absurd (show some (rI x3) = some (.inr (.inl (g ic0))) from e5) (fun h => by cases h)
  have sc0 : σ x4 = .inl (ty0, mc0, .inl gc0) := sc0
  have ec0 : x3 = gc0 ic0 := Sum.inl.inj (Option.some.inj (show some (rI x3) = some _ from e5))
  have kc0 : (ic0 : Int) = (301 * x1.toInt + (1 * x2.toInt + 0)) + 0 := by
    obtain ⟨z, e6, e7⟩ := e4
    obtain rfl : (301 * x1.toInt + (1 * x2.toInt + 0)) = z := Option.some.inj (show some (301 * x1.toInt + (1 * x2.toInt + 0)) = some z from e6)
    exact e7
  clear e1 e4 e5
  clear m1 m2 m3 m4
  have q0 : rB3 N K n p 346 [rR x0, rI x1, rI x2] σ := ro3_346.mpr (by
    obtain ⟨g, r⟩ := rRo_ex (ko := 62) (f := 12) (kr := 70) (len := 602) hH rfl rfl rfl (by decide) b0 d0
    have e2 := rRo_c (i := ic0) r s0 t0 sc0 ec0
    exact ⟨by omega, g, r, by rw [show (301 * x1.toInt + x2.toInt).toNat = ic0 by omega, e2]; omega⟩)
  exact ⟨p, fun _ => rfl, ⟨(fun q h => by cases h), fun q h => (by cases h), (fun f h => by cases h), (aAllc ⟨_, rfl, (rF_b (r := 5539) (by decide) rfl).mpr q0⟩ (fun f h => by cases h))⟩, [], List.mem_cons_self, fun f h => (by cases h)⟩
theorem rw_rlTC {N : Int} {K : Nat → Nat} {n : Nat} {JX : (Nat → jcell) → Prop} : aGho (rH N K n) fa_T K n JX ag_rlTC := by
  refine aGho_of ⟨rfl, rfl⟩ ?_
  intro p σ ρ hH hX hA hM0
  have hG := aAG_of hA.1 (fun i e v he hv => (hA.2 i e v he hv).1)
  clear hA
  obtain ⟨v0, v1, v2, v3, rfl, g0, g1, g2, g3⟩ := rA_4 hG
  clear hG
  obtain ⟨x0, rfl, b0, d0⟩ := rG_ref (by decide) g0
  obtain ⟨x1, rfl, b1, d1⟩ := aG_int g1
  dsimp only at b1 d1
  obtain ⟨x2, rfl, b2, d2⟩ := aG_int g2
  dsimp only at b2 d2
  obtain ⟨x3, rfl, b3, d3⟩ := rG_ref (by decide) g3
  obtain ⟨m1, m2, m3, m4⟩ := hM0
  obtain ⟨T, hT⟩ := rTe_ex hH b0 d0
  obtain ⟨a0, c0, fs0, w0, e1, s0, t0, e4⟩ := m1 (0, 18, 3) (List.mem_of_getElem? (i := 0) rfl)
  obtain rfl : x0 = a0 := Sum.inl.inj (Option.some.inj (Sum.inr.inj (Sum.inr.inj (Option.some.inj (show some (rR x0) = some _ from e1)))))
  obtain rfl : rR x3 = w0 := Option.some.inj (show some (rR x3) = some w0 from e4)
  clear e1 e4
  obtain ⟨a, mc0, ty0, gc0, ic0, e1, sc0, jc0, e4, e5⟩ := m2 (3, ([(1, 1)], 0), 2) (List.mem_of_getElem? (i := 0) rfl)
  obtain rfl : x3 = a := Sum.inl.inj (Option.some.inj (Sum.inr.inj (Sum.inr.inj (Option.some.inj (show some (rR x3) = some _ from e1)))))
  obtain ⟨gc0, rfl⟩ : ∃ g, gc0 = .inl g := by
    rcases gc0 with g | g
    · exact ⟨g, rfl⟩
    · exact absurd (show some (rI x2) = some (.inr (.inl (g ic0))) from e5) (fun h => by cases h)
  have sc0 : σ x3 = .inl (ty0, mc0, .inl gc0) := sc0
  have ec0 : x2 = gc0 ic0 := Sum.inl.inj (Option.some.inj (show some (rI x2) = some _ from e5))
  have kc0 : (ic0 : Int) = (1 * x1.toInt + 0) + 0 := by
    obtain ⟨z, e6, e7⟩ := e4
    obtain rfl : (1 * x1.toInt + 0) = z := Option.some.inj (show some (1 * x1.toInt + 0) = some z from e6)
    exact e7
  clear e1 e4 e5
  clear m1 m2 m3 m4
  have q0 : rB3 N K n p 350 [rR x0, rI x1, rI x2] σ := ro3_350.mpr (by
    obtain ⟨g, r⟩ := rRo_ex (ko := 62) (f := 18) (kr := 76) (len := 2) hH rfl rfl rfl (by decide) b0 d0
    have e2 := rRo_c (i := ic0) r s0 t0 sc0 ec0
    exact ⟨b1, g, r, by rw [show x1.toInt.toNat = ic0 by omega]; exact e2⟩)
  exact ⟨p, fun _ => rfl, ⟨(fun q h => by cases h), fun q h => (by cases h), (fun f h => by cases h), (aAllc ⟨_, rfl, (rF_b (r := 5603) (by decide) rfl).mpr q0⟩ (fun f h => by cases h))⟩, [], List.mem_cons_self, fun f h => (by cases h)⟩
theorem rw_rlTD {N : Int} {K : Nat → Nat} {n : Nat} {JX : (Nat → jcell) → Prop} : aGho (rH N K n) fa_T K n JX ag_rlTD := by
  refine aGho_of ⟨rfl, rfl⟩ ?_
  intro p σ ρ hH hX hA hM0
  have hG := aAG_of hA.1 (fun i e v he hv => (hA.2 i e v he hv).1)
  clear hA
  obtain ⟨v0, v1, v2, v3, v4, rfl, g0, g1, g2, g3, g4⟩ := rA_5 hG
  clear hG
  obtain ⟨x0, rfl, b0, d0⟩ := rG_ref (by decide) g0
  obtain ⟨x1, rfl, b1, d1⟩ := aG_int g1
  dsimp only at b1 d1
  obtain ⟨x2, rfl, b2, d2⟩ := aG_int g2
  dsimp only at b2 d2
  obtain ⟨x3, rfl, b3, d3⟩ := aG_int g3
  dsimp only at b3 d3
  obtain ⟨x4, rfl, b4, d4⟩ := rG_ref (by decide) g4
  obtain ⟨m1, m2, m3, m4⟩ := hM0
  obtain ⟨T, hT⟩ := rTe_ex hH b0 d0
  obtain ⟨a0, c0, fs0, w0, e1, s0, t0, e4⟩ := m1 (0, 18, 4) (List.mem_of_getElem? (i := 0) rfl)
  obtain rfl : x0 = a0 := Sum.inl.inj (Option.some.inj (Sum.inr.inj (Sum.inr.inj (Option.some.inj (show some (rR x0) = some _ from e1)))))
  obtain rfl : rR x4 = w0 := Option.some.inj (show some (rR x4) = some w0 from e4)
  clear e1 e4
  obtain ⟨a, mc0, ty0, gc0, ic0, e1, sc0, jc0, e4, e5⟩ := m2 (4, ([(1, 1)], 0), 2) (List.mem_of_getElem? (i := 0) rfl)
  obtain rfl : x4 = a := Sum.inl.inj (Option.some.inj (Sum.inr.inj (Sum.inr.inj (Option.some.inj (show some (rR x4) = some _ from e1)))))
  obtain ⟨gc0, rfl⟩ : ∃ g, gc0 = .inl g := by
    rcases gc0 with g | g
    · exact ⟨g, rfl⟩
    · exact absurd (show some (rI x2) = some (.inr (.inl (g ic0))) from e5) (fun h => by cases h)
  have sc0 : σ x4 = .inl (ty0, mc0, .inl gc0) := sc0
  have ec0 : x2 = gc0 ic0 := Sum.inl.inj (Option.some.inj (show some (rI x2) = some _ from e5))
  have kc0 : (ic0 : Int) = (1 * x1.toInt + 0) + 0 := by
    obtain ⟨z, e6, e7⟩ := e4
    obtain rfl : (1 * x1.toInt + 0) = z := Option.some.inj (show some (1 * x1.toInt + 0) = some z from e6)
    exact e7
  clear e1 e4 e5
  have f0 : rB3 N K n p 350 [rR x0, rI x1, rI x3] σ := by
    obtain ⟨w, e6, e7⟩ := m4 (5603, [0, 1, 3]) (List.mem_of_getElem? (i := 0) rfl)
    obtain rfl : [rR x0, rI x1, rI x3] = w := Option.some.inj (show some [rR x0, rI x1, rI x3] = some w from e6)
    exact (rF_b (r := 5603) (by decide) rfl).mp e7
  have f0 := ro3_350.mp f0
  clear m1 m2 m3 m4
  have r0 : 0 ≤ (-1 * x2.toInt + 0) + 7 := by
    obtain ⟨k0, g, r, e⟩ := f0
    have e2 := rRo_c (i := ic0) r s0 t0 sc0 ec0
    rw [show ic0 = x1.toInt.toNat by omega] at e2
    omega
  exact ⟨p, fun _ => rfl, ⟨(fun q h => by cases h), fun q h => (by cases h), (aAllc ⟨_, rfl, r0⟩ (fun f h => by cases h)), (fun f h => by cases h)⟩, [], List.mem_cons_self, fun f h => (by cases h)⟩
theorem rw_rlGX {N : Int} {K : Nat → Nat} {n : Nat} {JX : (Nat → jcell) → Prop} : aGho (rH N K n) fa_T K n JX ag_rlGX := by
  refine aGho_of ⟨rfl, rfl⟩ ?_
  intro p σ ρ hH hX hA hM0
  have hG := aAG_of hA.1 (fun i e v he hv => (hA.2 i e v he hv).1)
  clear hA
  obtain ⟨v0, v1, rfl, g0, g1⟩ := rA_2 hG
  clear hG
  obtain ⟨x0, rfl, b0, d0⟩ := rG_ref (by decide) g0
  obtain ⟨x1, rfl, b1, d1⟩ := aG_int g1
  dsimp only at b1 d1
  obtain ⟨m1, m2, m3, m4⟩ := hM0
  obtain ⟨T, hT⟩ := rTe_ex hH b0 d0
  have f0 : rB3 N K n p 282 [rR x0, rI x1] σ := by
    obtain ⟨w, e6, e7⟩ := m4 (4514, [0, 1]) (List.mem_of_getElem? (i := 0) rfl)
    obtain rfl : [rR x0, rI x1] = w := Option.some.inj (show some [rR x0, rI x1] = some w from e6)
    exact (rF_b (r := 4514) (by decide) rfl).mp e7
  have f0 := ro3_282_2.mp f0
  clear m1 m2 m3 m4
  have q0 : rB3 N K n p 282 [rR x0] σ := ro3_282_1.mpr (by
    exact f0 (by omega))
  exact ⟨p, fun _ => rfl, ⟨(fun q h => by cases h), fun q h => (by cases h), (fun f h => by cases h), (aAllc ⟨_, rfl, (rF_b (r := 4513) (by decide) rfl).mpr q0⟩ (fun f h => by cases h))⟩, [], List.mem_cons_self, fun f h => (by cases h)⟩
theorem rw_rlLp {N : Int} {K : Nat → Nat} {n : Nat} {JX : (Nat → jcell) → Prop} : aGho (rH N K n) fa_T K n JX ag_rlLp := by
  refine aGho_of ⟨rfl, rfl⟩ ?_
  intro p σ ρ hH hX hA hM0
  have hG := aAG_of hA.1 (fun i e v he hv => (hA.2 i e v he hv).1)
  clear hA
  obtain ⟨v0, v1, v2, v3, rfl, g0, g1, g2, g3⟩ := rA_4 hG
  clear hG
  obtain ⟨x0, rfl, b0, d0⟩ := rG_ref (by decide) g0
  obtain ⟨x1, rfl, b1, d1⟩ := aG_int g1
  dsimp only at b1 d1
  obtain ⟨x2, rfl, b2, d2⟩ := aG_int g2
  dsimp only at b2 d2
  obtain ⟨x3, rfl, b3, d3⟩ := aG_int g3
  dsimp only at b3 d3
  obtain ⟨m1, m2, m3, m4⟩ := hM0
  obtain ⟨T, hT⟩ := rTe_ex hH b0 d0
  obtain ⟨a0, c0, fs0, w0, e1, s0, t0, e4⟩ := m1 (0, 37, 2) (List.mem_of_getElem? (i := 0) rfl)
  obtain rfl : x0 = a0 := Sum.inl.inj (Option.some.inj (Sum.inr.inj (Sum.inr.inj (Option.some.inj (show some (rR x0) = some _ from e1)))))
  obtain rfl : rI x2 = w0 := Option.some.inj (show some (rI x2) = some w0 from e4)
  clear e1 e4
  obtain ⟨a1, c1, fs1, w1, e1, s1, t1, e4⟩ := m1 (0, 1, 3) (List.mem_of_getElem? (i := 1) rfl)
  obtain rfl : x0 = a1 := Sum.inl.inj (Option.some.inj (Sum.inr.inj (Sum.inr.inj (Option.some.inj (show some (rR x0) = some _ from e1)))))
  obtain rfl : rI x3 = w1 := Option.some.inj (show some (rI x3) = some w1 from e4)
  clear e1 e4
  have l0 : 0 ≤ (1 * x1.toInt + 0) + -1 := by
    obtain ⟨z, e6, e7⟩ := m3 ([(1, 1)], -1) (List.mem_of_getElem? (i := 0) rfl)
    obtain rfl : (1 * x1.toInt + 0) = z := Option.some.inj (show some (1 * x1.toInt + 0) = some z from e6)
    exact e7
  have f0 : rB3 N K n p 348 [rR x0, rI x1] σ := by
    obtain ⟨w, e6, e7⟩ := m4 (5570, [0, 1]) (List.mem_of_getElem? (i := 0) rfl)
    obtain rfl : [rR x0, rI x1] = w := Option.some.inj (show some [rR x0, rI x1] = some w from e6)
    exact (rF_b (r := 5570) (by decide) rfl).mp e7
  have f0 := ro3_348.mp f0
  clear m1 m2 m3 m4
  have r0 : 0 ≤ (1 * x3.toInt + (-1 * x2.toInt + 0)) + -1 := by
    obtain ⟨g, t, e, ⟨h0, h1, h2⟩, h3⟩ := f0
    cases rOb_u h1 ⟨b0, d0, _, _, s0, t0⟩
    cases rOb_u h2 ⟨b0, d0, _, _, s1, t1⟩
    unfold rLk9 at h3
    by_cases cc : x2.toInt < x3.toInt
    · omega
    · rw [if_neg cc] at h3
      omega
  exact ⟨p, fun _ => rfl, ⟨(fun q h => by cases h), fun q h => (by cases h), (aAllc ⟨_, rfl, r0⟩ (fun f h => by cases h)), (fun f h => by cases h)⟩, [], List.mem_cons_self, fun f h => (by cases h)⟩
theorem rw_roK {N : Int} {K : Nat → Nat} {n : Nat} {JX : (Nat → jcell) → Prop} : aGho (rH N K n) fa_T K n JX ag_roK := by
  refine aGho_of ⟨rfl, rfl⟩ ?_
  intro p σ ρ hH hX hA hM0
  have hG := aAG_of hA.1 (fun i e v he hv => (hA.2 i e v he hv).1)
  clear hA
  obtain ⟨v0, v1, v2, v3, v4, v5, rfl, g0, g1, g2, g3, g4, g5⟩ := rA_6 hG
  clear hG
  obtain ⟨x0, rfl, b0, d0⟩ := rG_ref (by decide) g0
  obtain ⟨x1, rfl, b1, d1⟩ := rG_ref (by decide) g1
  obtain ⟨x2, rfl, b2, d2⟩ := aG_int g2
  dsimp only at b2 d2
  obtain ⟨x3, rfl, b3, d3⟩ := aG_int g3
  dsimp only at b3 d3
  obtain ⟨x4, rfl, b4, d4⟩ := aG_int g4
  dsimp only at b4 d4
  obtain ⟨x5, rfl, b5, d5⟩ := aG_int g5
  dsimp only at b5 d5
  obtain ⟨m1, m2, m3, m4⟩ := hM0
  obtain ⟨T, hT⟩ := rTe_ex hH b0 d0
  obtain ⟨a0, c0, fs0, w0, e1, s0, t0, e4⟩ := m1 (0, 7, 1) (List.mem_of_getElem? (i := 0) rfl)
  obtain rfl : x0 = a0 := Sum.inl.inj (Option.some.inj (Sum.inr.inj (Sum.inr.inj (Option.some.inj (show some (rR x0) = some _ from e1)))))
  obtain rfl : rR x1 = w0 := Option.some.inj (show some (rR x1) = some w0 from e4)
  clear e1 e4
  have l0 : 0 ≤ (1 * x4.toInt + (1 * x2.toInt + 0)) + -1 := by
    obtain ⟨z, e6, e7⟩ := m3 ([(4, 1), (2, 1)], -1) (List.mem_of_getElem? (i := 0) rfl)
    obtain rfl : (1 * x4.toInt + (1 * x2.toInt + 0)) = z := Option.some.inj (show some (1 * x4.toInt + (1 * x2.toInt + 0)) = some z from e6)
    exact e7
  have l1 : 0 ≤ (-1 * x4.toInt + (-1 * x2.toInt + 0)) + 1 := by
    obtain ⟨z, e6, e7⟩ := m3 ([(4, -1), (2, -1)], 1) (List.mem_of_getElem? (i := 1) rfl)
    obtain rfl : (-1 * x4.toInt + (-1 * x2.toInt + 0)) = z := Option.some.inj (show some (-1 * x4.toInt + (-1 * x2.toInt + 0)) = some z from e6)
    exact e7
  have f0 : rB3 N K n p 349 [rR x0, rI x2, rI x3] σ := by
    obtain ⟨w, e6, e7⟩ := m4 (5587, [0, 2, 3]) (List.mem_of_getElem? (i := 0) rfl)
    obtain rfl : [rR x0, rI x2, rI x3] = w := Option.some.inj (show some [rR x0, rI x2, rI x3] = some w from e6)
    exact (rF_b (r := 5587) (by decide) rfl).mp e7
  obtain ⟨C, y, hY, f0⟩ := ro3_349.mp f0
  clear m1 m2 m3 m4
  have q0 : rB3 N K n p 349 [rR x0, rI x2, rI x3] (jup σ x1 (jsto (σ x1) x4.toNatClampNeg x5)) := ro3_349.mpr (by
    obtain ⟨⟨h1, h2, h3, h4, g5, g6, r5, r6, e5, e6⟩, ⟨gC, rC, eC⟩, hT⟩ := hY
    obtain ⟨g1, r1, z1⟩ := h1
    obtain ⟨g2, r2, z2⟩ := h2
    obtain ⟨g3, r3, z3⟩ := h3
    obtain ⟨g4, r4, z4⟩ := h4
    refine ⟨C, y, ⟨⟨⟨g1, rRo_o r1 (by omega) (by omega), z1⟩, ⟨g2, rRo_o r2 (by omega) (by omega), z2⟩, ⟨g3, rRo_o r3 (by omega) (by omega), z3⟩, ⟨g4, rRo_o r4 (by omega) (by omega), z4⟩, g5, g6, rRo_o r5 (by omega) (by omega), rRo_o r6 (by omega) (by omega), e5, e6⟩, ⟨_, rRo_up rC s0 t0, ?_⟩, hT⟩, f0⟩
    have hi : x4.toNatClampNeg = x4.toInt.toNat := rfl
    unfold upd
    rw [if_neg (by rw [hi]; omega)]
    exact eC)
  exact ⟨p, fun _ => rfl, ⟨(fun q h => by cases h), fun q h => (by cases h), (fun f h => by cases h), (aAllc ⟨_, rfl, rF_p (r := 5587) (by decide) (by decide) q0⟩ (fun f h => by cases h))⟩, [], List.mem_cons_self, fun f h => (by cases h)⟩
theorem rw_roC {N : Int} {K : Nat → Nat} {n : Nat} {JX : (Nat → jcell) → Prop} : aGho (rH N K n) fa_T K n JX ag_roC := by
  refine aGho_of ⟨rfl, rfl⟩ ?_
  intro p σ ρ hH hX hA hM0
  have hG := aAG_of hA.1 (fun i e v he hv => (hA.2 i e v he hv).1)
  clear hA
  obtain ⟨v0, v1, v2, v3, v4, v5, rfl, g0, g1, g2, g3, g4, g5⟩ := rA_6 hG
  clear hG
  obtain ⟨x0, rfl, b0, d0⟩ := rG_ref (by decide) g0
  obtain ⟨x1, rfl, b1, d1⟩ := rG_ref (by decide) g1
  obtain ⟨x2, rfl, b2, d2⟩ := aG_int g2
  dsimp only at b2 d2
  obtain ⟨x3, rfl, b3, d3⟩ := aG_int g3
  dsimp only at b3 d3
  obtain ⟨x4, rfl, b4, d4⟩ := aG_int g4
  dsimp only at b4 d4
  obtain ⟨x5, rfl, b5, d5⟩ := aG_int g5
  dsimp only at b5 d5
  obtain ⟨m1, m2, m3, m4⟩ := hM0
  obtain ⟨T, hT⟩ := rTe_ex hH b0 d0
  obtain ⟨a0, c0, fs0, w0, e1, s0, t0, e4⟩ := m1 (0, 10, 1) (List.mem_of_getElem? (i := 0) rfl)
  obtain rfl : x0 = a0 := Sum.inl.inj (Option.some.inj (Sum.inr.inj (Sum.inr.inj (Option.some.inj (show some (rR x0) = some _ from e1)))))
  obtain rfl : rR x1 = w0 := Option.some.inj (show some (rR x1) = some w0 from e4)
  clear e1 e4
  have l0 : 0 ≤ (1 * x4.toInt + (301 * x2.toInt + 0)) + -301 := by
    obtain ⟨z, e6, e7⟩ := m3 ([(4, 1), (2, 301)], -301) (List.mem_of_getElem? (i := 0) rfl)
    obtain rfl : (1 * x4.toInt + (301 * x2.toInt + 0)) = z := Option.some.inj (show some (1 * x4.toInt + (301 * x2.toInt + 0)) = some z from e6)
    exact e7
  have l1 : 0 ≤ (-1 * x4.toInt + (-301 * x2.toInt + 0)) + 601 := by
    obtain ⟨z, e6, e7⟩ := m3 ([(4, -1), (2, -301)], 601) (List.mem_of_getElem? (i := 1) rfl)
    obtain rfl : (-1 * x4.toInt + (-301 * x2.toInt + 0)) = z := Option.some.inj (show some (-1 * x4.toInt + (-301 * x2.toInt + 0)) = some z from e6)
    exact e7
  have f0 : rB3 N K n p 349 [rR x0, rI x2, rI x3] σ := by
    obtain ⟨w, e6, e7⟩ := m4 (5587, [0, 2, 3]) (List.mem_of_getElem? (i := 0) rfl)
    obtain rfl : [rR x0, rI x2, rI x3] = w := Option.some.inj (show some [rR x0, rI x2, rI x3] = some w from e6)
    exact (rF_b (r := 5587) (by decide) rfl).mp e7
  obtain ⟨C, y, hY, f0⟩ := ro3_349.mp f0
  clear m1 m2 m3 m4
  have q0 : rB3 N K n p 349 [rR x0, rI x2, rI x3] (jup σ x1 (jsto (σ x1) x4.toNatClampNeg x5)) := ro3_349.mpr (by
    obtain ⟨y', hY'⟩ := rTY_ot (f := 10) (kr := 68) (i := x4) (v := x5) hY b2 (by omega) s0 t0 d1 (by omega) (by omega)
    exact ⟨C, y', hY', f0⟩)
  exact ⟨p, fun _ => rfl, ⟨(fun q h => by cases h), fun q h => (by cases h), (fun f h => by cases h), (aAllc ⟨_, rfl, rF_p (r := 5587) (by decide) (by decide) q0⟩ (fun f h => by cases h))⟩, [], List.mem_cons_self, fun f h => (by cases h)⟩
theorem rw_roN {N : Int} {K : Nat → Nat} {n : Nat} {JX : (Nat → jcell) → Prop} : aGho (rH N K n) fa_T K n JX ag_roN := by
  refine aGho_of ⟨rfl, rfl⟩ ?_
  intro p σ ρ hH hX hA hM0
  have hG := aAG_of hA.1 (fun i e v he hv => (hA.2 i e v he hv).1)
  clear hA
  obtain ⟨v0, v1, v2, v3, v4, v5, rfl, g0, g1, g2, g3, g4, g5⟩ := rA_6 hG
  clear hG
  obtain ⟨x0, rfl, b0, d0⟩ := rG_ref (by decide) g0
  obtain ⟨x1, rfl, b1, d1⟩ := rG_ref (by decide) g1
  obtain ⟨x2, rfl, b2, d2⟩ := aG_int g2
  dsimp only at b2 d2
  obtain ⟨x3, rfl, b3, d3⟩ := aG_int g3
  dsimp only at b3 d3
  obtain ⟨x4, rfl, b4, d4⟩ := aG_int g4
  dsimp only at b4 d4
  obtain ⟨x5, rfl, b5, d5⟩ := aG_int g5
  dsimp only at b5 d5
  obtain ⟨m1, m2, m3, m4⟩ := hM0
  obtain ⟨T, hT⟩ := rTe_ex hH b0 d0
  obtain ⟨a0, c0, fs0, w0, e1, s0, t0, e4⟩ := m1 (0, 11, 1) (List.mem_of_getElem? (i := 0) rfl)
  obtain rfl : x0 = a0 := Sum.inl.inj (Option.some.inj (Sum.inr.inj (Sum.inr.inj (Option.some.inj (show some (rR x0) = some _ from e1)))))
  obtain rfl : rR x1 = w0 := Option.some.inj (show some (rR x1) = some w0 from e4)
  clear e1 e4
  have l0 : 0 ≤ (1 * x4.toInt + (301 * x2.toInt + 0)) + -301 := by
    obtain ⟨z, e6, e7⟩ := m3 ([(4, 1), (2, 301)], -301) (List.mem_of_getElem? (i := 0) rfl)
    obtain rfl : (1 * x4.toInt + (301 * x2.toInt + 0)) = z := Option.some.inj (show some (1 * x4.toInt + (301 * x2.toInt + 0)) = some z from e6)
    exact e7
  have l1 : 0 ≤ (-1 * x4.toInt + (-301 * x2.toInt + 0)) + 601 := by
    obtain ⟨z, e6, e7⟩ := m3 ([(4, -1), (2, -301)], 601) (List.mem_of_getElem? (i := 1) rfl)
    obtain rfl : (-1 * x4.toInt + (-301 * x2.toInt + 0)) = z := Option.some.inj (show some (-1 * x4.toInt + (-301 * x2.toInt + 0)) = some z from e6)
    exact e7
  have f0 : rB3 N K n p 349 [rR x0, rI x2, rI x3] σ := by
    obtain ⟨w, e6, e7⟩ := m4 (5587, [0, 2, 3]) (List.mem_of_getElem? (i := 0) rfl)
    obtain rfl : [rR x0, rI x2, rI x3] = w := Option.some.inj (show some [rR x0, rI x2, rI x3] = some w from e6)
    exact (rF_b (r := 5587) (by decide) rfl).mp e7
  obtain ⟨C, y, hY, f0⟩ := ro3_349.mp f0
  clear m1 m2 m3 m4
  have q0 : rB3 N K n p 349 [rR x0, rI x2, rI x3] (jup σ x1 (jsto (σ x1) x4.toNatClampNeg x5)) := ro3_349.mpr (by
    obtain ⟨y', hY'⟩ := rTY_ot (f := 11) (kr := 69) (i := x4) (v := x5) hY b2 (by omega) s0 t0 d1 (by omega) (by omega)
    exact ⟨C, y', hY', f0⟩)
  exact ⟨p, fun _ => rfl, ⟨(fun q h => by cases h), fun q h => (by cases h), (fun f h => by cases h), (aAllc ⟨_, rfl, rF_p (r := 5587) (by decide) (by decide) q0⟩ (fun f h => by cases h))⟩, [], List.mem_cons_self, fun f h => (by cases h)⟩
theorem rw_roP {N : Int} {K : Nat → Nat} {n : Nat} {JX : (Nat → jcell) → Prop} : aGho (rH N K n) fa_T K n JX ag_roP := by
  refine aGho_of ⟨rfl, rfl⟩ ?_
  intro p σ ρ hH hX hA hM0
  have hG := aAG_of hA.1 (fun i e v he hv => (hA.2 i e v he hv).1)
  clear hA
  obtain ⟨v0, v1, v2, v3, v4, v5, rfl, g0, g1, g2, g3, g4, g5⟩ := rA_6 hG
  clear hG
  obtain ⟨x0, rfl, b0, d0⟩ := rG_ref (by decide) g0
  obtain ⟨x1, rfl, b1, d1⟩ := rG_ref (by decide) g1
  obtain ⟨x2, rfl, b2, d2⟩ := aG_int g2
  dsimp only at b2 d2
  obtain ⟨x3, rfl, b3, d3⟩ := aG_int g3
  dsimp only at b3 d3
  obtain ⟨x4, rfl, b4, d4⟩ := aG_int g4
  dsimp only at b4 d4
  obtain ⟨x5, rfl, b5, d5⟩ := aG_int g5
  dsimp only at b5 d5
  obtain ⟨m1, m2, m3, m4⟩ := hM0
  obtain ⟨T, hT⟩ := rTe_ex hH b0 d0
  obtain ⟨a0, c0, fs0, w0, e1, s0, t0, e4⟩ := m1 (0, 8, 1) (List.mem_of_getElem? (i := 0) rfl)
  obtain rfl : x0 = a0 := Sum.inl.inj (Option.some.inj (Sum.inr.inj (Sum.inr.inj (Option.some.inj (show some (rR x0) = some _ from e1)))))
  obtain rfl : rR x1 = w0 := Option.some.inj (show some (rR x1) = some w0 from e4)
  clear e1 e4
  have l0 : 0 ≤ (1 * x4.toInt + (301 * x2.toInt + 0)) + -301 := by
    obtain ⟨z, e6, e7⟩ := m3 ([(4, 1), (2, 301)], -301) (List.mem_of_getElem? (i := 0) rfl)
    obtain rfl : (1 * x4.toInt + (301 * x2.toInt + 0)) = z := Option.some.inj (show some (1 * x4.toInt + (301 * x2.toInt + 0)) = some z from e6)
    exact e7
  have l1 : 0 ≤ (-1 * x4.toInt + (-301 * x2.toInt + 0)) + 601 := by
    obtain ⟨z, e6, e7⟩ := m3 ([(4, -1), (2, -301)], 601) (List.mem_of_getElem? (i := 1) rfl)
    obtain rfl : (-1 * x4.toInt + (-301 * x2.toInt + 0)) = z := Option.some.inj (show some (-1 * x4.toInt + (-301 * x2.toInt + 0)) = some z from e6)
    exact e7
  have f0 : rB3 N K n p 349 [rR x0, rI x2, rI x3] σ := by
    obtain ⟨w, e6, e7⟩ := m4 (5587, [0, 2, 3]) (List.mem_of_getElem? (i := 0) rfl)
    obtain rfl : [rR x0, rI x2, rI x3] = w := Option.some.inj (show some [rR x0, rI x2, rI x3] = some w from e6)
    exact (rF_b (r := 5587) (by decide) rfl).mp e7
  obtain ⟨C, y, hY, f0⟩ := ro3_349.mp f0
  clear m1 m2 m3 m4
  have q0 : rB3 N K n p 349 [rR x0, rI x2, rI x3] (jup σ x1 (jsto (σ x1) x4.toNatClampNeg x5)) := ro3_349.mpr (by
    obtain ⟨y', hY'⟩ := rTY_ot (f := 8) (kr := 66) (i := x4) (v := x5) hY b2 (by omega) s0 t0 d1 (by omega) (by omega)
    exact ⟨C, y', hY', f0⟩)
  exact ⟨p, fun _ => rfl, ⟨(fun q h => by cases h), fun q h => (by cases h), (fun f h => by cases h), (aAllc ⟨_, rfl, rF_p (r := 5587) (by decide) (by decide) q0⟩ (fun f h => by cases h))⟩, [], List.mem_cons_self, fun f h => (by cases h)⟩
theorem rw_roM {N : Int} {K : Nat → Nat} {n : Nat} {JX : (Nat → jcell) → Prop} : aGho (rH N K n) fa_T K n JX ag_roM := by
  refine aGho_of ⟨rfl, rfl⟩ ?_
  intro p σ ρ hH hX hA hM0
  have hG := aAG_of hA.1 (fun i e v he hv => (hA.2 i e v he hv).1)
  clear hA
  obtain ⟨v0, v1, v2, v3, v4, v5, rfl, g0, g1, g2, g3, g4, g5⟩ := rA_6 hG
  clear hG
  obtain ⟨x0, rfl, b0, d0⟩ := rG_ref (by decide) g0
  obtain ⟨x1, rfl, b1, d1⟩ := rG_ref (by decide) g1
  obtain ⟨x2, rfl, b2, d2⟩ := aG_int g2
  dsimp only at b2 d2
  obtain ⟨x3, rfl, b3, d3⟩ := aG_int g3
  dsimp only at b3 d3
  obtain ⟨x4, rfl, b4, d4⟩ := aG_int g4
  dsimp only at b4 d4
  obtain ⟨x5, rfl, b5, d5⟩ := aG_int g5
  dsimp only at b5 d5
  obtain ⟨m1, m2, m3, m4⟩ := hM0
  obtain ⟨T, hT⟩ := rTe_ex hH b0 d0
  obtain ⟨a0, c0, fs0, w0, e1, s0, t0, e4⟩ := m1 (0, 9, 1) (List.mem_of_getElem? (i := 0) rfl)
  obtain rfl : x0 = a0 := Sum.inl.inj (Option.some.inj (Sum.inr.inj (Sum.inr.inj (Option.some.inj (show some (rR x0) = some _ from e1)))))
  obtain rfl : rR x1 = w0 := Option.some.inj (show some (rR x1) = some w0 from e4)
  clear e1 e4
  have l0 : 0 ≤ (1 * x4.toInt + (301 * x2.toInt + 0)) + -301 := by
    obtain ⟨z, e6, e7⟩ := m3 ([(4, 1), (2, 301)], -301) (List.mem_of_getElem? (i := 0) rfl)
    obtain rfl : (1 * x4.toInt + (301 * x2.toInt + 0)) = z := Option.some.inj (show some (1 * x4.toInt + (301 * x2.toInt + 0)) = some z from e6)
    exact e7
  have l1 : 0 ≤ (-1 * x4.toInt + (-301 * x2.toInt + 0)) + 601 := by
    obtain ⟨z, e6, e7⟩ := m3 ([(4, -1), (2, -301)], 601) (List.mem_of_getElem? (i := 1) rfl)
    obtain rfl : (-1 * x4.toInt + (-301 * x2.toInt + 0)) = z := Option.some.inj (show some (-1 * x4.toInt + (-301 * x2.toInt + 0)) = some z from e6)
    exact e7
  have f0 : rB3 N K n p 349 [rR x0, rI x2, rI x3] σ := by
    obtain ⟨w, e6, e7⟩ := m4 (5587, [0, 2, 3]) (List.mem_of_getElem? (i := 0) rfl)
    obtain rfl : [rR x0, rI x2, rI x3] = w := Option.some.inj (show some [rR x0, rI x2, rI x3] = some w from e6)
    exact (rF_b (r := 5587) (by decide) rfl).mp e7
  obtain ⟨C, y, hY, f0⟩ := ro3_349.mp f0
  clear m1 m2 m3 m4
  have q0 : rB3 N K n p 349 [rR x0, rI x2, rI x3] (jup σ x1 (jsto (σ x1) x4.toNatClampNeg x5)) := ro3_349.mpr (by
    obtain ⟨y', hY'⟩ := rTY_ot (f := 9) (kr := 67) (i := x4) (v := x5) hY b2 (by omega) s0 t0 d1 (by omega) (by omega)
    exact ⟨C, y', hY', f0⟩)
  exact ⟨p, fun _ => rfl, ⟨(fun q h => by cases h), fun q h => (by cases h), (fun f h => by cases h), (aAllc ⟨_, rfl, rF_p (r := 5587) (by decide) (by decide) q0⟩ (fun f h => by cases h))⟩, [], List.mem_cons_self, fun f h => (by cases h)⟩
theorem rw_roA {N : Int} {K : Nat → Nat} {n : Nat} {JX : (Nat → jcell) → Prop} : aGho (rH N K n) fa_T K n JX ag_roA := by
  refine aGho_of ⟨rfl, rfl⟩ ?_
  intro p σ ρ hH hX hA hM0
  have hG := aAG_of hA.1 (fun i e v he hv => (hA.2 i e v he hv).1)
  clear hA
  obtain ⟨v0, v1, v2, v3, v4, v5, rfl, g0, g1, g2, g3, g4, g5⟩ := rA_6 hG
  clear hG
  obtain ⟨x0, rfl, b0, d0⟩ := rG_ref (by decide) g0
  obtain ⟨x1, rfl, b1, d1⟩ := rG_ref (by decide) g1
  obtain ⟨x2, rfl, b2, d2⟩ := aG_int g2
  dsimp only at b2 d2
  obtain ⟨x3, rfl, b3, d3⟩ := aG_int g3
  dsimp only at b3 d3
  obtain ⟨x4, rfl, b4, d4⟩ := aG_int g4
  dsimp only at b4 d4
  obtain ⟨x5, rfl, b5, d5⟩ := aG_int g5
  dsimp only at b5 d5
  obtain ⟨m1, m2, m3, m4⟩ := hM0
  obtain ⟨T, hT⟩ := rTe_ex hH b0 d0
  obtain ⟨a0, c0, fs0, w0, e1, s0, t0, e4⟩ := m1 (0, 16, 1) (List.mem_of_getElem? (i := 0) rfl)
  obtain rfl : x0 = a0 := Sum.inl.inj (Option.some.inj (Sum.inr.inj (Sum.inr.inj (Option.some.inj (show some (rR x0) = some _ from e1)))))
  obtain rfl : rR x1 = w0 := Option.some.inj (show some (rR x1) = some w0 from e4)
  clear e1 e4
  have l0 : 0 ≤ (1 * x4.toInt + (64 * x2.toInt + 0)) + -64 := by
    obtain ⟨z, e6, e7⟩ := m3 ([(4, 1), (2, 64)], -64) (List.mem_of_getElem? (i := 0) rfl)
    obtain rfl : (1 * x4.toInt + (64 * x2.toInt + 0)) = z := Option.some.inj (show some (1 * x4.toInt + (64 * x2.toInt + 0)) = some z from e6)
    exact e7
  have l1 : 0 ≤ (-1 * x4.toInt + (-64 * x2.toInt + 0)) + 127 := by
    obtain ⟨z, e6, e7⟩ := m3 ([(4, -1), (2, -64)], 127) (List.mem_of_getElem? (i := 1) rfl)
    obtain rfl : (-1 * x4.toInt + (-64 * x2.toInt + 0)) = z := Option.some.inj (show some (-1 * x4.toInt + (-64 * x2.toInt + 0)) = some z from e6)
    exact e7
  have f0 : rB3 N K n p 349 [rR x0, rI x2, rI x3] σ := by
    obtain ⟨w, e6, e7⟩ := m4 (5587, [0, 2, 3]) (List.mem_of_getElem? (i := 0) rfl)
    obtain rfl : [rR x0, rI x2, rI x3] = w := Option.some.inj (show some [rR x0, rI x2, rI x3] = some w from e6)
    exact (rF_b (r := 5587) (by decide) rfl).mp e7
  obtain ⟨C, y, hY, f0⟩ := ro3_349.mp f0
  clear m1 m2 m3 m4
  have q0 : rB3 N K n p 349 [rR x0, rI x2, rI x3] (jup σ x1 (jsto (σ x1) x4.toNatClampNeg x5)) := ro3_349.mpr (by
    obtain ⟨⟨h1, h2, h3, h4, g5, g6, r5, r6, e5, e6⟩, ⟨gC, rC, eC⟩, hT⟩ := hY
    obtain ⟨g1, r1, z1⟩ := h1
    obtain ⟨g2, r2, z2⟩ := h2
    obtain ⟨g3, r3, z3⟩ := h3
    obtain ⟨g4, r4, z4⟩ := h4
    refine ⟨C, y, ⟨⟨⟨g1, rRo_o r1 (by omega) (by omega), z1⟩, ⟨g2, rRo_o r2 (by omega) (by omega), z2⟩, ⟨g3, rRo_o r3 (by omega) (by omega), z3⟩, ⟨g4, rRo_o r4 (by omega) (by omega), z4⟩, _, g6, rRo_up r5 s0 t0, rRo_o r6 (by omega) (by omega), ?_, e6⟩, ⟨gC, rRo_o rC (by omega) (by omega), eC⟩, hT⟩, f0⟩
    rw [e5]
    unfold rS0
    congr 1
    funext i
    have hi : x4.toNatClampNeg = x4.toInt.toNat := rfl
    unfold upd
    by_cases ci : 0 ≤ i ∧ i ≤ 63
    · rw [if_pos ci, if_pos ci, if_neg (by rw [hi]; omega)]
    · rw [if_neg ci, if_neg ci])
  exact ⟨p, fun _ => rfl, ⟨(fun q h => by cases h), fun q h => (by cases h), (fun f h => by cases h), (aAllc ⟨_, rfl, rF_p (r := 5587) (by decide) (by decide) q0⟩ (fun f h => by cases h))⟩, [], List.mem_cons_self, fun f h => (by cases h)⟩
theorem rw_roR {N : Int} {K : Nat → Nat} {n : Nat} {JX : (Nat → jcell) → Prop} : aGho (rH N K n) fa_T K n JX ag_roR := by
  refine aGho_of ⟨rfl, rfl⟩ ?_
  intro p σ ρ hH hX hA hM0
  have hG := aAG_of hA.1 (fun i e v he hv => (hA.2 i e v he hv).1)
  clear hA
  obtain ⟨v0, v1, v2, v3, v4, v5, rfl, g0, g1, g2, g3, g4, g5⟩ := rA_6 hG
  clear hG
  obtain ⟨x0, rfl, b0, d0⟩ := rG_ref (by decide) g0
  obtain ⟨x1, rfl, b1, d1⟩ := rG_ref (by decide) g1
  obtain ⟨x2, rfl, b2, d2⟩ := aG_int g2
  dsimp only at b2 d2
  obtain ⟨x3, rfl, b3, d3⟩ := aG_int g3
  dsimp only at b3 d3
  obtain ⟨x4, rfl, b4, d4⟩ := aG_int g4
  dsimp only at b4 d4
  obtain ⟨x5, rfl, b5, d5⟩ := aG_int g5
  dsimp only at b5 d5
  obtain ⟨m1, m2, m3, m4⟩ := hM0
  obtain ⟨T, hT⟩ := rTe_ex hH b0 d0
  obtain ⟨a0, c0, fs0, w0, e1, s0, t0, e4⟩ := m1 (0, 17, 1) (List.mem_of_getElem? (i := 0) rfl)
  obtain rfl : x0 = a0 := Sum.inl.inj (Option.some.inj (Sum.inr.inj (Sum.inr.inj (Option.some.inj (show some (rR x0) = some _ from e1)))))
  obtain rfl : rR x1 = w0 := Option.some.inj (show some (rR x1) = some w0 from e4)
  clear e1 e4
  have l0 : 0 ≤ (1 * x4.toInt + (5 * x2.toInt + 0)) + -5 := by
    obtain ⟨z, e6, e7⟩ := m3 ([(4, 1), (2, 5)], -5) (List.mem_of_getElem? (i := 0) rfl)
    obtain rfl : (1 * x4.toInt + (5 * x2.toInt + 0)) = z := Option.some.inj (show some (1 * x4.toInt + (5 * x2.toInt + 0)) = some z from e6)
    exact e7
  have l1 : 0 ≤ (-1 * x4.toInt + (-5 * x2.toInt + 0)) + 9 := by
    obtain ⟨z, e6, e7⟩ := m3 ([(4, -1), (2, -5)], 9) (List.mem_of_getElem? (i := 1) rfl)
    obtain rfl : (-1 * x4.toInt + (-5 * x2.toInt + 0)) = z := Option.some.inj (show some (-1 * x4.toInt + (-5 * x2.toInt + 0)) = some z from e6)
    exact e7
  have f0 : rB3 N K n p 349 [rR x0, rI x2, rI x3] σ := by
    obtain ⟨w, e6, e7⟩ := m4 (5587, [0, 2, 3]) (List.mem_of_getElem? (i := 0) rfl)
    obtain rfl : [rR x0, rI x2, rI x3] = w := Option.some.inj (show some [rR x0, rI x2, rI x3] = some w from e6)
    exact (rF_b (r := 5587) (by decide) rfl).mp e7
  obtain ⟨C, y, hY, f0⟩ := ro3_349.mp f0
  clear m1 m2 m3 m4
  have q0 : rB3 N K n p 349 [rR x0, rI x2, rI x3] (jup σ x1 (jsto (σ x1) x4.toNatClampNeg x5)) := ro3_349.mpr (by
    obtain ⟨⟨h1, h2, h3, h4, g5, g6, r5, r6, e5, e6⟩, ⟨gC, rC, eC⟩, hT⟩ := hY
    obtain ⟨g1, r1, z1⟩ := h1
    obtain ⟨g2, r2, z2⟩ := h2
    obtain ⟨g3, r3, z3⟩ := h3
    obtain ⟨g4, r4, z4⟩ := h4
    have hi : x4.toNatClampNeg = x4.toInt.toNat := rfl
    refine ⟨C, y, ⟨⟨⟨g1, rRo_o r1 (by omega) (by omega), z1⟩, ⟨g2, rRo_o r2 (by omega) (by omega), z2⟩, ⟨g3, rRo_o r3 (by omega) (by omega), z3⟩, ⟨g4, rRo_o r4 (by omega) (by omega), z4⟩, g5, _, rRo_o r5 (by omega) (by omega), rRo_up r6 s0 t0, ?_, ?_⟩, ⟨gC, rRo_o rC (by omega) (by omega), eC⟩, hT⟩, f0⟩
    · rw [e5]
      unfold rS0 upd
      rw [if_neg (by rw [hi]; omega), if_neg (by rw [hi]; omega), if_neg (by rw [hi]; omega)]
    · rw [e6]
      unfold upd
      rw [if_neg (by rw [hi]; omega)])
  exact ⟨p, fun _ => rfl, ⟨(fun q h => by cases h), fun q h => (by cases h), (fun f h => by cases h), (aAllc ⟨_, rfl, rF_p (r := 5587) (by decide) (by decide) q0⟩ (fun f h => by cases h))⟩, [], List.mem_cons_self, fun f h => (by cases h)⟩
theorem rw_roMZ {N : Int} {K : Nat → Nat} {n : Nat} {JX : (Nat → jcell) → Prop} : aGho (rH N K n) fa_T K n JX ag_roMZ := by
  refine aGho_of ⟨rfl, rfl⟩ ?_
  intro p σ ρ hH hX hA hM0
  have hG := aAG_of hA.1 (fun i e v he hv => (hA.2 i e v he hv).1)
  clear hA
  obtain ⟨v0, v1, v2, v3, rfl, g0, g1, g2, g3⟩ := rA_4 hG
  clear hG
  obtain ⟨x0, rfl, b0, d0⟩ := rG_ref (by decide) g0
  obtain ⟨x1, rfl, b1, d1⟩ := rG_ref (by decide) g1
  obtain ⟨x2, rfl, b2, d2⟩ := aG_int g2
  dsimp only at b2 d2
  obtain ⟨x3, rfl, b3, d3⟩ := aG_int g3
  dsimp only at b3 d3
  obtain ⟨m1, m2, m3, m4⟩ := hM0
  obtain ⟨T, hT⟩ := rTe_ex hH b0 d0
  obtain ⟨a0, c0, fs0, w0, e1, s0, t0, e4⟩ := m1 (0, 12, 1) (List.mem_of_getElem? (i := 0) rfl)
  obtain rfl : x0 = a0 := Sum.inl.inj (Option.some.inj (Sum.inr.inj (Sum.inr.inj (Option.some.inj (show some (rR x0) = some _ from e1)))))
  obtain rfl : rR x1 = w0 := Option.some.inj (show some (rR x1) = some w0 from e4)
  clear e1 e4
  clear m1 m2 m3 m4
  have q0 : rB3 N K n p 347 [rR x0, rI x2] (jup σ x1 (jsto (σ x1) x2.toNatClampNeg x3)) := ro3_347.mpr (by
    obtain ⟨g, h⟩ := rRo_of (k := 62) (f := 12) (kr := 70) (len := 602) hH b0 d0 s0 t0 b1 d1 rfl
    refine ⟨by omega, _, rRo_up h s0 t0, ?_⟩
    have hi : x2.toNatClampNeg = x2.toInt.toNat := rfl
    unfold upd
    rw [if_pos (by rw [hi])]
    omega)
  exact ⟨p, fun _ => rfl, ⟨(fun q h => by cases h), fun q h => (by cases h), (fun f h => by cases h), (aAllc ⟨_, rfl, rF_p (r := 5554) (by decide) (by decide) q0⟩ (fun f h => by cases h))⟩, [], List.mem_cons_self, fun f h => (by cases h)⟩
theorem rw_roL0 {N : Int} {K : Nat → Nat} {n : Nat} {JX : (Nat → jcell) → Prop} : aGho (rH N K n) fa_T K n JX ag_roL0 := by
  refine aGho_of ⟨rfl, rfl⟩ ?_
  intro p σ ρ hH hX hA hM0
  have hG := aAG_of hA.1 (fun i e v he hv => (hA.2 i e v he hv).1)
  clear hA
  obtain ⟨v0, v1, v2, v3, v4, rfl, g0, g1, g2, g3, g4⟩ := rA_5 hG
  clear hG
  obtain ⟨x0, rfl, b0, d0⟩ := rG_ref (by decide) g0
  obtain ⟨x1, rfl, b1, d1⟩ := aG_int g1
  dsimp only at b1 d1
  obtain ⟨x2, rfl, b2, d2⟩ := aG_int g2
  dsimp only at b2 d2
  obtain ⟨x3, rfl, b3, d3⟩ := aG_int g3
  dsimp only at b3 d3
  obtain ⟨x4, rfl, b4, d4⟩ := rG_ref (by decide) g4
  obtain ⟨m1, m2, m3, m4⟩ := hM0
  obtain ⟨T, hT⟩ := rTe_ex hH b0 d0
  obtain ⟨a0, c0, fs0, w0, e1, s0, t0, e4⟩ := m1 (0, 7, 4) (List.mem_of_getElem? (i := 0) rfl)
  obtain rfl : x0 = a0 := Sum.inl.inj (Option.some.inj (Sum.inr.inj (Sum.inr.inj (Option.some.inj (show some (rR x0) = some _ from e1)))))
  obtain rfl : rR x4 = w0 := Option.some.inj (show some (rR x4) = some w0 from e4)
  clear e1 e4
  obtain ⟨a, mc0, ty0, gc0, ic0, e1, sc0, jc0, e4, e5⟩ := m2 (4, ([(1, 1)], 0), 2) (List.mem_of_getElem? (i := 0) rfl)
  obtain rfl : x4 = a := Sum.inl.inj (Option.some.inj (Sum.inr.inj (Sum.inr.inj (Option.some.inj (show some (rR x4) = some _ from e1)))))
  obtain ⟨gc0, rfl⟩ : ∃ g, gc0 = .inl g := by
    rcases gc0 with g | g
    · exact ⟨g, rfl⟩
    · exact absurd (show some (rI x2) = some (.inr (.inl (g ic0))) from e5) (fun h => by cases h)
  have sc0 : σ x4 = .inl (ty0, mc0, .inl gc0) := sc0
  have ec0 : x2 = gc0 ic0 := Sum.inl.inj (Option.some.inj (show some (rI x2) = some _ from e5))
  have kc0 : (ic0 : Int) = (1 * x1.toInt + 0) + 0 := by
    obtain ⟨z, e6, e7⟩ := e4
    obtain rfl : (1 * x1.toInt + 0) = z := Option.some.inj (show some (1 * x1.toInt + 0) = some z from e6)
    exact e7
  clear e1 e4 e5
  have l0 : 0 ≤ (1 * x3.toInt + (-1 * x2.toInt + 0)) + -1 := by
    obtain ⟨z, e6, e7⟩ := m3 ([(3, 1), (2, -1)], -1) (List.mem_of_getElem? (i := 0) rfl)
    obtain rfl : (1 * x3.toInt + (-1 * x2.toInt + 0)) = z := Option.some.inj (show some (1 * x3.toInt + (-1 * x2.toInt + 0)) = some z from e6)
    exact e7
  have f0 : rB3 N K n p 453 [rR x0, rI x1] σ := by
    obtain ⟨w, e6, e7⟩ := m4 (7250, [0, 1]) (List.mem_of_getElem? (i := 0) rfl)
    obtain rfl : [rR x0, rI x1] = w := Option.some.inj (show some [rR x0, rI x1] = some w from e6)
    exact (rF_b (r := 7250) (by decide) rfl).mp e7
  obtain ⟨C, y, hY, f0⟩ := ro3_453.mp f0
  clear m1 m2 m3 m4
  have q0 : rB3 N K n p 451 [rI x3] σ := ro3_451.mpr (by
    obtain ⟨z, hz, hz2⟩ := f0
    obtain ⟨gC, rC, eC⟩ := hY.2.1
    have e0 := rRo_c (i := ic0) rC s0 t0 sc0 ec0
    rw [show ic0 = x1.toInt.toNat by omega, eC] at e0
    exact ⟨z, hz, by omega⟩)
  exact ⟨p, fun _ => rfl, ⟨(fun q h => by cases h), fun q h => (by cases h), (fun f h => by cases h), (aAllc ⟨_, rfl, (rF_b (r := 7217) (by decide) rfl).mpr q0⟩ (fun f h => by cases h))⟩, [], List.mem_cons_self, fun f h => (by cases h)⟩
theorem rw_roL1 {N : Int} {K : Nat → Nat} {n : Nat} {JX : (Nat → jcell) → Prop} : aGho (rH N K n) fa_T K n JX ag_roL1 := by
  refine aGho_of ⟨rfl, rfl⟩ ?_
  intro p σ ρ hH hX hA hM0
  have hG := aAG_of hA.1 (fun i e v he hv => (hA.2 i e v he hv).1)
  clear hA
  obtain ⟨v0, v1, v2, rfl, g0, g1, g2⟩ := rA_3 hG
  clear hG
  obtain ⟨x0, rfl, b0, d0⟩ := rG_ref (by decide) g0
  obtain ⟨x1, rfl, b1, d1⟩ := aG_int g1
  dsimp only at b1 d1
  obtain ⟨x2, rfl, b2, d2⟩ := aG_int g2
  dsimp only at b2 d2
  obtain ⟨m1, m2, m3, m4⟩ := hM0
  obtain ⟨T, hT⟩ := rTe_ex hH b0 d0
  have f0 : rB3 N K n p 451 [rI x2] σ := by
    obtain ⟨w, e6, e7⟩ := m4 (7217, [2]) (List.mem_of_getElem? (i := 0) rfl)
    obtain rfl : [rI x2] = w := Option.some.inj (show some [rI x2] = some w from e6)
    exact (rF_b (r := 7217) (by decide) rfl).mp e7
  have f0 := ro3_451.mp f0
  have f1 : rB3 N K n p 241 [rR x0, rI x1, rI x2] σ := by
    obtain ⟨w, e6, e7⟩ := m4 (3859, [0, 1, 2]) (List.mem_of_getElem? (i := 1) rfl)
    obtain rfl : [rR x0, rI x1, rI x2] = w := Option.some.inj (show some [rR x0, rI x1, rI x2] = some w from e6)
    exact (rF_b (r := 3859) (by decide) rfl).mp e7
  obtain ⟨C, y, hY, f1⟩ := ro3_241.mp f1
  clear m1 m2 m3 m4
  have q0 : rB3 N K n p 453 [rR x0, rI x1] σ := ro3_453.mpr ⟨C, y, hY, by
    obtain ⟨z, hz, hz2⟩ := f0
    exact ⟨z, hz, by have := f1.2; omega⟩⟩
  exact ⟨p, fun _ => rfl, ⟨(fun q h => by cases h), fun q h => (by cases h), (fun f h => by cases h), (aAllc ⟨_, rfl, (rF_b (r := 7250) (by decide) rfl).mpr q0⟩ (fun f h => by cases h))⟩, [], List.mem_cons_self, fun f h => (by cases h)⟩
theorem rw_roMk {N : Int} {K : Nat → Nat} {n : Nat} {JX : (Nat → jcell) → Prop} : aGho (rH N K n) fa_T K n JX ag_roMk := by
  refine aGho_of ⟨rfl, rfl⟩ ?_
  intro p σ ρ hH hX hA hM0
  have hG := aAG_of hA.1 (fun i e v he hv => (hA.2 i e v he hv).1)
  clear hA
  obtain ⟨v0, v1, v2, v3, rfl, g0, g1, g2, g3⟩ := rA_4 hG
  clear hG
  obtain ⟨x0, rfl, b0, d0⟩ := rG_ref (by decide) g0
  obtain ⟨x1, rfl, b1, d1⟩ := aG_int g1
  dsimp only at b1 d1
  obtain ⟨x2, rfl, b2, d2⟩ := aG_int g2
  dsimp only at b2 d2
  obtain ⟨x3, rfl, b3, d3⟩ := aG_int g3
  dsimp only at b3 d3
  obtain ⟨m1, m2, m3, m4⟩ := hM0
  obtain ⟨T, hT⟩ := rTe_ex hH b0 d0
  have l0 : 0 ≤ (1 * x3.toInt + (-301 * x1.toInt + (-1 * x2.toInt + 0))) + 0 := by
    obtain ⟨z, e6, e7⟩ := m3 ([(3, 1), (1, -301), (2, -1)], 0) (List.mem_of_getElem? (i := 0) rfl)
    obtain rfl : (1 * x3.toInt + (-301 * x1.toInt + (-1 * x2.toInt + 0))) = z := Option.some.inj (show some (1 * x3.toInt + (-301 * x1.toInt + (-1 * x2.toInt + 0))) = some z from e6)
    exact e7
  have l1 : 0 ≤ (-1 * x3.toInt + (301 * x1.toInt + (1 * x2.toInt + 0))) + 0 := by
    obtain ⟨z, e6, e7⟩ := m3 ([(3, -1), (1, 301), (2, 1)], 0) (List.mem_of_getElem? (i := 1) rfl)
    obtain rfl : (-1 * x3.toInt + (301 * x1.toInt + (1 * x2.toInt + 0))) = z := Option.some.inj (show some (-1 * x3.toInt + (301 * x1.toInt + (1 * x2.toInt + 0))) = some z from e6)
    exact e7
  have f0 : rB3 N K n p 347 [rR x0, rI x3] σ := by
    obtain ⟨w, e6, e7⟩ := m4 (5554, [0, 3]) (List.mem_of_getElem? (i := 0) rfl)
    obtain rfl : [rR x0, rI x3] = w := Option.some.inj (show some [rR x0, rI x3] = some w from e6)
    exact (rF_b (r := 5554) (by decide) rfl).mp e7
  have f0 := ro3_347.mp f0
  clear m1 m2 m3 m4
  have q0 : rB3 N K n p 345 [rR x0, rI x1, rI x2] σ := ro3_345.mpr (by
    obtain ⟨k0, g, r, e⟩ := f0
    rw [show x3.toInt = 301 * x1.toInt + x2.toInt by omega] at e k0
    exact ⟨k0, g, r, e⟩)
  exact ⟨p, fun _ => rfl, ⟨(fun q h => by cases h), fun q h => (by cases h), (fun f h => by cases h), (aAllc ⟨_, rfl, (rF_b (r := 5523) (by decide) rfl).mpr q0⟩ (fun f h => by cases h))⟩, [], List.mem_cons_self, fun f h => (by cases h)⟩
theorem rw_rpN {N : Int} {K : Nat → Nat} {n : Nat} {JX : (Nat → jcell) → Prop} : aGho (rH N K n) fa_T K n JX ag_rpN := by
  refine aGho_of ⟨rfl, rfl⟩ ?_
  intro p σ ρ hH hX hA hM0
  have hG := aAG_of hA.1 (fun i e v he hv => (hA.2 i e v he hv).1)
  clear hA
  obtain ⟨v0, v1, v2, rfl, g0, g1, g2⟩ := rA_3 hG
  clear hG
  obtain ⟨x0, rfl, b0, d0⟩ := rG_ref (by decide) g0
  obtain ⟨x1, rfl, b1, d1⟩ := aG_int g1
  dsimp only at b1 d1
  obtain ⟨x2, rfl, b2, d2⟩ := aG_int g2
  dsimp only at b2 d2
  obtain ⟨m1, m2, m3, m4⟩ := hM0
  obtain ⟨T, hT⟩ := rTe_ex hH b0 d0
  have f0 : rB3 N K n p 453 [rR x0, rI x1] σ := by
    obtain ⟨w, e6, e7⟩ := m4 (7250, [0, 1]) (List.mem_of_getElem? (i := 0) rfl)
    obtain rfl : [rR x0, rI x1] = w := Option.some.inj (show some [rR x0, rI x1] = some w from e6)
    exact (rF_b (r := 7250) (by decide) rfl).mp e7
  obtain ⟨C, y, hY, f0⟩ := ro3_453.mp f0
  clear m1 m2 m3 m4
  have q0 : rB3 N K n p 238 [rR x0, rI x1, rI x2] σ := ro3_238.mpr ⟨C, y, hY, by
    intro h
    omega⟩
  have q1 : rB3 N K n p 452 [rI x2] σ := ro3_452.mpr (by
    intro h
    omega)
  have q2 : rB3 N K n p 351 [rR x0, rI x1, rI x2] σ := ro3_351.mpr (by
    intro h
    omega)
  exact ⟨p, fun _ => rfl, ⟨(fun q h => by cases h), fun q h => (by cases h), (fun f h => by cases h), (aAllc ⟨_, rfl, (rF_b (r := 3811) (by decide) rfl).mpr q0⟩ (aAllc ⟨_, rfl, (rF_b (r := 7233) (by decide) rfl).mpr q1⟩ (aAllc ⟨_, rfl, (rF_b (r := 5619) (by decide) rfl).mpr q2⟩ (fun f h => by cases h))))⟩, [], List.mem_cons_self, fun f h => (by cases h)⟩
theorem rw_rpP {N : Int} {K : Nat → Nat} {n : Nat} {JX : (Nat → jcell) → Prop} : aGho (rH N K n) fa_T K n JX ag_rpP := by
  refine aGho_of ⟨rfl, rfl⟩ ?_
  intro p σ ρ hH hX hA hM0
  have hG := aAG_of hA.1 (fun i e v he hv => (hA.2 i e v he hv).1)
  clear hA
  obtain ⟨v0, v1, v2, rfl, g0, g1, g2⟩ := rA_3 hG
  clear hG
  obtain ⟨x0, rfl, b0, d0⟩ := rG_ref (by decide) g0
  obtain ⟨x1, rfl, b1, d1⟩ := aG_int g1
  dsimp only at b1 d1
  obtain ⟨x2, rfl, b2, d2⟩ := aG_int g2
  dsimp only at b2 d2
  obtain ⟨m1, m2, m3, m4⟩ := hM0
  obtain ⟨T, hT⟩ := rTe_ex hH b0 d0
  have f0 : rB3 N K n p 241 [rR x0, rI x1, rI x2] σ := by
    obtain ⟨w, e6, e7⟩ := m4 (3859, [0, 1, 2]) (List.mem_of_getElem? (i := 0) rfl)
    obtain rfl : [rR x0, rI x1, rI x2] = w := Option.some.inj (show some [rR x0, rI x1, rI x2] = some w from e6)
    exact (rF_b (r := 3859) (by decide) rfl).mp e7
  obtain ⟨C, y, hY, f0⟩ := ro3_241.mp f0
  have f1 : rB3 N K n p 451 [rI x2] σ := by
    obtain ⟨w, e6, e7⟩ := m4 (7217, [2]) (List.mem_of_getElem? (i := 1) rfl)
    obtain rfl : [rI x2] = w := Option.some.inj (show some [rI x2] = some w from e6)
    exact (rF_b (r := 7217) (by decide) rfl).mp e7
  have f1 := ro3_451.mp f1
  have f2 : rB3 N K n p 345 [rR x0, rI x1, rI x2] σ := by
    obtain ⟨w, e6, e7⟩ := m4 (5523, [0, 1, 2]) (List.mem_of_getElem? (i := 2) rfl)
    obtain rfl : [rR x0, rI x1, rI x2] = w := Option.some.inj (show some [rR x0, rI x1, rI x2] = some w from e6)
    exact (rF_b (r := 5523) (by decide) rfl).mp e7
  have f2 := ro3_345.mp f2
  clear m1 m2 m3 m4
  have q0 : rB3 N K n p 238 [rR x0, rI x1, rI x2] σ := ro3_238.mpr ⟨C, y, hY, by
    intro _
    exact f0.2⟩
  have q1 : rB3 N K n p 452 [rI x2] σ := ro3_452.mpr (by
    exact fun _ => f1)
  have q2 : rB3 N K n p 351 [rR x0, rI x1, rI x2] σ := ro3_351.mpr (by
    exact fun _ => f2)
  exact ⟨p, fun _ => rfl, ⟨(fun q h => by cases h), fun q h => (by cases h), (fun f h => by cases h), (aAllc ⟨_, rfl, (rF_b (r := 3811) (by decide) rfl).mpr q0⟩ (aAllc ⟨_, rfl, (rF_b (r := 7233) (by decide) rfl).mpr q1⟩ (aAllc ⟨_, rfl, (rF_b (r := 5619) (by decide) rfl).mpr q2⟩ (fun f h => by cases h))))⟩, [], List.mem_cons_self, fun f h => (by cases h)⟩
theorem rw_rpS {N : Int} {K : Nat → Nat} {n : Nat} {JX : (Nat → jcell) → Prop} : aGho (rH N K n) fa_T K n JX ag_rpS := by
  refine aGho_of ⟨rfl, rfl⟩ ?_
  intro p σ ρ hH hX hA hM0
  have hG := aAG_of hA.1 (fun i e v he hv => (hA.2 i e v he hv).1)
  clear hA
  obtain ⟨v0, v1, v2, rfl, g0, g1, g2⟩ := rA_3 hG
  clear hG
  obtain ⟨x0, rfl, b0, d0⟩ := rG_ref (by decide) g0
  obtain ⟨x1, rfl, b1, d1⟩ := aG_int g1
  dsimp only at b1 d1
  obtain ⟨x2, rfl, b2, d2⟩ := aG_int g2
  dsimp only at b2 d2
  obtain ⟨m1, m2, m3, m4⟩ := hM0
  obtain ⟨T, hT⟩ := rTe_ex hH b0 d0
  have f0 : rB3 N K n p 245 [rR x0, rI x1, rI x2] σ := by
    obtain ⟨w, e6, e7⟩ := m4 (3923, [0, 1, 2]) (List.mem_of_getElem? (i := 0) rfl)
    obtain rfl : [rR x0, rI x1, rI x2] = w := Option.some.inj (show some [rR x0, rI x1, rI x2] = some w from e6)
    exact (rF_b (r := 3923) (by decide) rfl).mp e7
  have f0 := ro3_245.mp f0
  clear m1 m2 m3 m4
  have q0 : rB3 N K n p 220 [rR x0] σ := ro3_220.mpr (by
    obtain ⟨pa, mo, q0, z, cc, v, p1, p2, p3, p4, p5, p6, p10, p11, p12⟩ := f0
    exact ⟨v, p10, p11, p12⟩)
  have q1 : rB3 N K n p 352 [rR x0, rI x1, rI x2] σ := ro3_352.mpr (by
    obtain ⟨pa, mo, q0, z, cc, v, p1, p2, p3, p4, p5, ⟨p6, p7, p8⟩, p10, p11, p12⟩ := f0
    exact ⟨pa, mo, q0, cc, ⟨p1, p2, z, p3⟩, p6, p8⟩)
  exact ⟨p, fun _ => rfl, ⟨(fun q h => by cases h), fun q h => (by cases h), (fun f h => by cases h), (aAllc ⟨_, rfl, (rF_b (r := 3521) (by decide) rfl).mpr q0⟩ (aAllc ⟨_, rfl, (rF_b (r := 5635) (by decide) rfl).mpr q1⟩ (fun f h => by cases h)))⟩, [], List.mem_cons_self, fun f h => (by cases h)⟩
theorem rw_rpG {N : Int} {K : Nat → Nat} {n : Nat} {JX : (Nat → jcell) → Prop} : aGho (rH N K n) fa_T K n JX ag_rpG := by
  refine aGho_of ⟨rfl, rfl⟩ ?_
  intro p σ ρ hH hX hA hM0
  have hG := aAG_of hA.1 (fun i e v he hv => (hA.2 i e v he hv).1)
  clear hA
  obtain ⟨v0, v1, v2, v3, rfl, g0, g1, g2, g3⟩ := rA_4 hG
  clear hG
  obtain ⟨x0, rfl, b0, d0⟩ := rG_ref (by decide) g0
  obtain ⟨x1, rfl, b1, d1⟩ := aG_int g1
  dsimp only at b1 d1
  obtain ⟨x2, rfl, b2, d2⟩ := aG_int g2
  dsimp only at b2 d2
  obtain ⟨x3, rfl, b3, d3⟩ := aG_int g3
  dsimp only at b3 d3
  obtain ⟨m1, m2, m3, m4⟩ := hM0
  obtain ⟨T, hT⟩ := rTe_ex hH b0 d0
  have f0 : rB3 N K n p 241 [rR x0, rI x1, rI x2] σ := by
    obtain ⟨w, e6, e7⟩ := m4 (3859, [0, 1, 2]) (List.mem_of_getElem? (i := 0) rfl)
    obtain rfl : [rR x0, rI x1, rI x2] = w := Option.some.inj (show some [rR x0, rI x1, rI x2] = some w from e6)
    exact (rF_b (r := 3859) (by decide) rfl).mp e7
  obtain ⟨C, y, hY, f0⟩ := ro3_241.mp f0
  have f1 : rB3 N K n p 352 [rR x0, rI x1, rI x2] σ := by
    obtain ⟨w, e6, e7⟩ := m4 (5635, [0, 1, 2]) (List.mem_of_getElem? (i := 1) rfl)
    obtain rfl : [rR x0, rI x1, rI x2] = w := Option.some.inj (show some [rR x0, rI x1, rI x2] = some w from e6)
    exact (rF_b (r := 5635) (by decide) rfl).mp e7
  have f1 := ro3_352.mp f1
  have f2 : rB3 N K n p 343 [rR x0, rI x3] σ := by
    obtain ⟨w, e6, e7⟩ := m4 (5490, [0, 3]) (List.mem_of_getElem? (i := 2) rfl)
    obtain rfl : [rR x0, rI x3] = w := Option.some.inj (show some [rR x0, rI x3] = some w from e6)
    exact (rF_b (r := 5490) (by decide) rfl).mp e7
  have f2 := ro3_343.mp f2
  clear m1 m2 m3 m4
  have q0 : rB3 N K n p 266 [rR x0, rI x1, rI x2, rI x3] σ := ro3_266.mpr ⟨C, y, hY, by
    obtain ⟨pa, mo, q0, cc, p1, p6, g, p8, p9⟩ := f1
    obtain ⟨g', c', i1, i2, j, j0, j1, j2⟩ := f2 b3
    obtain rfl := rRo_u p8 i1
    cases rOb_u p6 i2
    have h := p9 j j0 j1
    rw [j2] at h
    obtain ⟨rfl, rfl, rfl⟩ := rSt3_u p1 (rSt3_y hY.1)
    exact h⟩
  exact ⟨p, fun _ => rfl, ⟨(fun q h => by cases h), fun q h => (by cases h), (fun f h => by cases h), (aAllc ⟨_, rfl, (rF_b (r := 4260) (by decide) rfl).mpr q0⟩ (fun f h => by cases h))⟩, [], List.mem_cons_self, fun f h => (by cases h)⟩
theorem rw_rlLz {N : Int} {K : Nat → Nat} {n : Nat} {JX : (Nat → jcell) → Prop} : aGho (rH N K n) fa_T K n JX ag_rlLz := by
  refine aGho_of ⟨rfl, rfl⟩ ?_
  intro p σ ρ hH hX hA hM0
  have hG := aAG_of hA.1 (fun i e v he hv => (hA.2 i e v he hv).1)
  clear hA
  obtain ⟨v0, v1, v2, v3, rfl, g0, g1, g2, g3⟩ := rA_4 hG
  clear hG
  obtain ⟨x0, rfl, b0, d0⟩ := rG_ref (by decide) g0
  obtain ⟨x1, rfl, b1, d1⟩ := aG_int g1
  dsimp only at b1 d1
  obtain ⟨x2, rfl, b2, d2⟩ := aG_int g2
  dsimp only at b2 d2
  obtain ⟨x3, rfl, b3, d3⟩ := aG_int g3
  dsimp only at b3 d3
  obtain ⟨m1, m2, m3, m4⟩ := hM0
  obtain ⟨T, hT⟩ := rTe_ex hH b0 d0
  obtain ⟨a0, c0, fs0, w0, e1, s0, t0, e4⟩ := m1 (0, 37, 2) (List.mem_of_getElem? (i := 0) rfl)
  obtain rfl : x0 = a0 := Sum.inl.inj (Option.some.inj (Sum.inr.inj (Sum.inr.inj (Option.some.inj (show some (rR x0) = some _ from e1)))))
  obtain rfl : rI x2 = w0 := Option.some.inj (show some (rI x2) = some w0 from e4)
  clear e1 e4
  obtain ⟨a1, c1, fs1, w1, e1, s1, t1, e4⟩ := m1 (0, 1, 3) (List.mem_of_getElem? (i := 1) rfl)
  obtain rfl : x0 = a1 := Sum.inl.inj (Option.some.inj (Sum.inr.inj (Sum.inr.inj (Option.some.inj (show some (rR x0) = some _ from e1)))))
  obtain rfl : rI x3 = w1 := Option.some.inj (show some (rI x3) = some w1 from e4)
  clear e1 e4
  have l0 : 0 ≤ (1 * x2.toInt + (-1 * x3.toInt + 0)) + 0 := by
    obtain ⟨z, e6, e7⟩ := m3 ([(2, 1), (3, -1)], 0) (List.mem_of_getElem? (i := 0) rfl)
    obtain rfl : (1 * x2.toInt + (-1 * x3.toInt + 0)) = z := Option.some.inj (show some (1 * x2.toInt + (-1 * x3.toInt + 0)) = some z from e6)
    exact e7
  have f0 : rB3 N K n p 348 [rR x0, rI x1] σ := by
    obtain ⟨w, e6, e7⟩ := m4 (5570, [0, 1]) (List.mem_of_getElem? (i := 0) rfl)
    obtain rfl : [rR x0, rI x1] = w := Option.some.inj (show some [rR x0, rI x1] = some w from e6)
    exact (rF_b (r := 5570) (by decide) rfl).mp e7
  have f0 := ro3_348.mp f0
  clear m1 m2 m3 m4
  have r0 : 0 ≤ (1 * x1.toInt + 0) + 0 := by
    obtain ⟨g, t, e, ⟨h0, h1, h2⟩, h3⟩ := f0
    cases rOb_u h1 ⟨b0, d0, _, _, s0, t0⟩
    cases rOb_u h2 ⟨b0, d0, _, _, s1, t1⟩
    unfold rLk9 at h3
    rw [if_neg (by omega)] at h3
    omega
  have r1 : 0 ≤ (-1 * x1.toInt + 0) + 0 := by
    obtain ⟨g, t, e, ⟨h0, h1, h2⟩, h3⟩ := f0
    cases rOb_u h1 ⟨b0, d0, _, _, s0, t0⟩
    cases rOb_u h2 ⟨b0, d0, _, _, s1, t1⟩
    unfold rLk9 at h3
    rw [if_neg (by omega)] at h3
    omega
  exact ⟨p, fun _ => rfl, ⟨(fun q h => by cases h), fun q h => (by cases h), (aAllc ⟨_, rfl, r0⟩ (aAllc ⟨_, rfl, r1⟩ (fun f h => by cases h))), (fun f h => by cases h)⟩, [], List.mem_cons_self, fun f h => (by cases h)⟩
theorem rw_rpZ {N : Int} {K : Nat → Nat} {n : Nat} {JX : (Nat → jcell) → Prop} : aGho (rH N K n) fa_T K n JX ag_rpZ := by
  refine aGho_of ⟨rfl, rfl⟩ ?_
  intro p σ ρ hH hX hA hM0
  have hG := aAG_of hA.1 (fun i e v he hv => (hA.2 i e v he hv).1)
  clear hA
  obtain ⟨v0, v1, v2, rfl, g0, g1, g2⟩ := rA_3 hG
  clear hG
  obtain ⟨x0, rfl, b0, d0⟩ := rG_ref (by decide) g0
  obtain ⟨x1, rfl, b1, d1⟩ := aG_int g1
  dsimp only at b1 d1
  obtain ⟨x2, rfl, b2, d2⟩ := aG_int g2
  dsimp only at b2 d2
  obtain ⟨m1, m2, m3, m4⟩ := hM0
  obtain ⟨T, hT⟩ := rTe_ex hH b0 d0
  have f0 : rB3 N K n p 238 [rR x0, rI x1, rI x2] σ := by
    obtain ⟨w, e6, e7⟩ := m4 (3811, [0, 1, 2]) (List.mem_of_getElem? (i := 0) rfl)
    obtain rfl : [rR x0, rI x1, rI x2] = w := Option.some.inj (show some [rR x0, rI x1, rI x2] = some w from e6)
    exact (rF_b (r := 3811) (by decide) rfl).mp e7
  obtain ⟨C, y, hY, f0⟩ := ro3_238.mp f0
  have f1 : rB3 N K n p 452 [rI x2] σ := by
    obtain ⟨w, e6, e7⟩ := m4 (7233, [2]) (List.mem_of_getElem? (i := 1) rfl)
    obtain rfl : [rI x2] = w := Option.some.inj (show some [rI x2] = some w from e6)
    exact (rF_b (r := 7233) (by decide) rfl).mp e7
  have f1 := ro3_452.mp f1
  have f2 : rB3 N K n p 351 [rR x0, rI x1, rI x2] σ := by
    obtain ⟨w, e6, e7⟩ := m4 (5619, [0, 1, 2]) (List.mem_of_getElem? (i := 2) rfl)
    obtain rfl : [rR x0, rI x1, rI x2] = w := Option.some.inj (show some [rR x0, rI x1, rI x2] = some w from e6)
    exact (rF_b (r := 5619) (by decide) rfl).mp e7
  have f2 := ro3_351.mp f2
  clear m1 m2 m3 m4
  have q0 : rB3 N K n p 241 [rR x0, rI x1, rI x2] σ := ro3_241.mpr ⟨C, y, hY, by
    exact ⟨by omega, f0 (by omega)⟩⟩
  have q1 : rB3 N K n p 451 [rI x2] σ := ro3_451.mpr (by
    exact f1 (by omega))
  have q2 : rB3 N K n p 345 [rR x0, rI x1, rI x2] σ := ro3_345.mpr (by
    exact f2 (by omega))
  exact ⟨p, fun _ => rfl, ⟨(fun q h => by cases h), fun q h => (by cases h), (fun f h => by cases h), (aAllc ⟨_, rfl, (rF_b (r := 3859) (by decide) rfl).mpr q0⟩ (aAllc ⟨_, rfl, (rF_b (r := 7217) (by decide) rfl).mpr q1⟩ (aAllc ⟨_, rfl, (rF_b (r := 5523) (by decide) rfl).mpr q2⟩ (fun f h => by cases h))))⟩, [], List.mem_cons_self, fun f h => (by cases h)⟩
theorem rw_roLs {N : Int} {K : Nat → Nat} {n : Nat} {JX : (Nat → jcell) → Prop} : aGho (rH N K n) fa_T K n JX ag_roLs := by
  refine aGho_of ⟨rfl, rfl⟩ ?_
  intro p σ ρ hH hX hA hM0
  have hG := aAG_of hA.1 (fun i e v he hv => (hA.2 i e v he hv).1)
  clear hA
  obtain ⟨v0, v1, v2, v3, v4, v5, rfl, g0, g1, g2, g3, g4, g5⟩ := rA_6 hG
  clear hG
  obtain ⟨x0, rfl, b0, d0⟩ := rG_ref (by decide) g0
  obtain ⟨x1, rfl, b1, d1⟩ := aG_int g1
  dsimp only at b1 d1
  obtain ⟨x2, rfl, b2, d2⟩ := aG_int g2
  dsimp only at b2 d2
  obtain ⟨x3, rfl, b3, d3⟩ := aG_int g3
  dsimp only at b3 d3
  obtain ⟨x4, rfl, b4, d4⟩ := aG_int g4
  dsimp only at b4 d4
  obtain ⟨x5, rfl, b5, d5⟩ := aG_int g5
  dsimp only at b5 d5
  obtain ⟨m1, m2, m3, m4⟩ := hM0
  obtain ⟨T, hT⟩ := rTe_ex hH b0 d0
  have f0 : rB3 N K n p 241 [rR x0, rI x1, rI x2] σ := by
    obtain ⟨w, e6, e7⟩ := m4 (3859, [0, 1, 2]) (List.mem_of_getElem? (i := 0) rfl)
    obtain rfl : [rR x0, rI x1, rI x2] = w := Option.some.inj (show some [rR x0, rI x1, rI x2] = some w from e6)
    exact (rF_b (r := 3859) (by decide) rfl).mp e7
  obtain ⟨C, y, hY, f0⟩ := ro3_241.mp f0
  have f1 : rB3 N K n p 453 [rR x0, rI x1] σ := by
    obtain ⟨w, e6, e7⟩ := m4 (7250, [0, 1]) (List.mem_of_getElem? (i := 1) rfl)
    obtain rfl : [rR x0, rI x1] = w := Option.some.inj (show some [rR x0, rI x1] = some w from e6)
    exact (rF_b (r := 7250) (by decide) rfl).mp e7
  obtain ⟨C9, y9, h9, f1⟩ := ro3_453.mp f1
  obtain ⟨rfl, rfl⟩ := rTY_u hY h9
  clear h9
  have f2 : rB3 N K n p 241 [rR x0, rI x1, rI x3] σ := by
    obtain ⟨w, e6, e7⟩ := m4 (3859, [0, 1, 3]) (List.mem_of_getElem? (i := 2) rfl)
    obtain rfl : [rR x0, rI x1, rI x3] = w := Option.some.inj (show some [rR x0, rI x1, rI x3] = some w from e6)
    exact (rF_b (r := 3859) (by decide) rfl).mp e7
  obtain ⟨C9, y9, h9, f2⟩ := ro3_241.mp f2
  obtain ⟨rfl, rfl⟩ := rTY_u hY h9
  clear h9
  have f3 : rB3 N K n p 349 [rR x0, rI x4, rI x5] σ := by
    obtain ⟨w, e6, e7⟩ := m4 (5587, [0, 4, 5]) (List.mem_of_getElem? (i := 3) rfl)
    obtain rfl : [rR x0, rI x4, rI x5] = w := Option.some.inj (show some [rR x0, rI x4, rI x5] = some w from e6)
    exact (rF_b (r := 5587) (by decide) rfl).mp e7
  obtain ⟨C2, yy2, hY2, f3⟩ := ro3_349.mp f3
  clear m1 m2 m3 m4
  have q0 : rB3 N K n (rSh rS1 p [rI x2, rI x2]) 450 [rR x0, rI x1] σ := ro3_450.mpr ⟨C, y, hY, by
    obtain ⟨z, hz, -⟩ := f1
    exact ⟨_, rSh_w2 hz, f0.2⟩⟩
  have q1 : rB3 N K n (rSh rS1 p [rI x2, rI x2]) 241 [rR x0, rI x1, rI x3] σ := ro3_241.mpr ⟨C, y, hY, by
    exact f2⟩
  have q2 : rB3 N K n (rSh rS1 p [rI x2, rI x2]) 349 [rR x0, rI x4, rI x5] σ := ro3_349.mpr ⟨C2, yy2, hY2, by
    exact f3⟩
  exact ⟨p, fun _ => rfl, ⟨(fun q h => by cases h), fun q h => (by cases h), (fun f h => by cases h), (aAllc ⟨_, rfl, (rF_g (r := 7202) (by decide)).mpr q0⟩ (aAllc ⟨_, rfl, (rF_g (r := 3859) (by decide)).mpr q1⟩ (aAllc ⟨_, rfl, (rF_g (r := 5587) (by decide)).mpr q2⟩ (fun f h => by cases h))))⟩, [], List.mem_cons_self, fun f h => (by cases h)⟩
theorem rw_roLr {N : Int} {K : Nat → Nat} {n : Nat} {JX : (Nat → jcell) → Prop} : aGho (rH N K n) fa_T K n JX ag_roLr := by
  refine aGho_of ⟨rfl, rfl⟩ ?_
  intro p σ ρ hH hX hA hM0
  have hG := aAG_of hA.1 (fun i e v he hv => (hA.2 i e v he hv).1)
  clear hA
  obtain ⟨v0, v1, v2, v3, v4, rfl, g0, g1, g2, g3, g4⟩ := rA_5 hG
  clear hG
  obtain ⟨x0, rfl, b0, d0⟩ := rG_ref (by decide) g0
  obtain ⟨x1, rfl, b1, d1⟩ := aG_int g1
  dsimp only at b1 d1
  obtain ⟨x2, rfl, b2, d2⟩ := aG_int g2
  dsimp only at b2 d2
  obtain ⟨x3, rfl, b3, d3⟩ := aG_int g3
  dsimp only at b3 d3
  obtain ⟨x4, rfl, b4, d4⟩ := aG_int g4
  dsimp only at b4 d4
  obtain ⟨m1, m2, m3, m4⟩ := hM0
  obtain ⟨T, hT⟩ := rTe_ex hH b0 d0
  have f0 : rB3 N K n (rSh rS1 p [rI x2, rI x2]) 450 [rR x0, rI x1] σ := by
    obtain ⟨w, e6, e7⟩ := m4 (7202, [0, 1, 2, 2]) (List.mem_of_getElem? (i := 0) rfl)
    obtain rfl : [rR x0, rI x1, rI x2, rI x2] = w := Option.some.inj (show some [rR x0, rI x1, rI x2, rI x2] = some w from e6)
    exact (rF_g (r := 7202) (by decide)).mp e7
  obtain ⟨C, y, hY, f0⟩ := ro3_450.mp f0
  have f1 : rB3 N K n p 451 [rI x2] σ := by
    obtain ⟨w, e6, e7⟩ := m4 (7217, [2]) (List.mem_of_getElem? (i := 1) rfl)
    obtain rfl : [rI x2] = w := Option.some.inj (show some [rI x2] = some w from e6)
    exact (rF_b (r := 7217) (by decide) rfl).mp e7
  have f1 := ro3_451.mp f1
  have f2 : rB3 N K n (rSh rS1 p [rI x2, rI x2]) 349 [rR x0, rI x3, rI x4] σ := by
    obtain ⟨w, e6, e7⟩ := m4 (5587, [0, 3, 4, 2, 2]) (List.mem_of_getElem? (i := 2) rfl)
    obtain rfl : [rR x0, rI x3, rI x4, rI x2, rI x2] = w := Option.some.inj (show some [rR x0, rI x3, rI x4, rI x2, rI x2] = some w from e6)
    exact (rF_g (r := 5587) (by decide)).mp e7
  obtain ⟨C2, yy2, hY2, f2⟩ := ro3_349.mp f2
  clear m1 m2 m3 m4
  have q0 : rB3 N K n p 453 [rR x0, rI x1] σ := ro3_453.mpr ⟨C, y, hY, by
    obtain ⟨z, hz, hz2⟩ := f1
    obtain ⟨z9, h9, h8⟩ := f0
    have := rSh_w h9
    exact ⟨z, hz, by omega⟩⟩
  have q1 : rB3 N K n p 241 [rR x0, rI x1, rI x2] σ := ro3_241.mpr ⟨C, y, hY, by
    obtain ⟨z9, h9, h8⟩ := f0
    have := rSh_w h9
    exact ⟨b2, by omega⟩⟩
  have q2 : rB3 N K n p 349 [rR x0, rI x3, rI x4] σ := ro3_349.mpr ⟨C2, yy2, hY2, by
    exact f2⟩
  exact ⟨p, fun _ => rfl, ⟨(fun q h => by cases h), fun q h => (by cases h), (fun f h => by cases h), (aAllc ⟨_, rfl, (rF_b (r := 7250) (by decide) rfl).mpr q0⟩ (aAllc ⟨_, rfl, (rF_b (r := 3859) (by decide) rfl).mpr q1⟩ (aAllc ⟨_, rfl, (rF_b (r := 5587) (by decide) rfl).mpr q2⟩ (fun f h => by cases h))))⟩, [], List.mem_cons_self, fun f h => (by cases h)⟩
theorem rw_roLa {N : Int} {K : Nat → Nat} {n : Nat} {JX : (Nat → jcell) → Prop} : aGho (rH N K n) fa_T K n JX ag_roLa := by
  refine aGho_of ⟨rfl, rfl⟩ ?_
  intro p σ ρ hH hX hA hM0
  have hG := aAG_of hA.1 (fun i e v he hv => (hA.2 i e v he hv).1)
  clear hA
  obtain ⟨v0, v1, rfl, g0, g1⟩ := rA_2 hG
  clear hG
  obtain ⟨x0, rfl, b0, d0⟩ := rG_ref (by decide) g0
  obtain ⟨x1, rfl, b1, d1⟩ := aG_int g1
  dsimp only at b1 d1
  obtain ⟨m1, m2, m3, m4⟩ := hM0
  obtain ⟨T, hT⟩ := rTe_ex hH b0 d0
  have f0 : rB3 N K n p 450 [rR x0, rI x1] σ := by
    obtain ⟨w, e6, e7⟩ := m4 (7202, [0, 1]) (List.mem_of_getElem? (i := 0) rfl)
    obtain rfl : [rR x0, rI x1] = w := Option.some.inj (show some [rR x0, rI x1] = some w from e6)
    exact (rF_b (r := 7202) (by decide) rfl).mp e7
  obtain ⟨C, y, hY, f0⟩ := ro3_450.mp f0
  clear m1 m2 m3 m4
  have q0 : rB3 N K n p 453 [rR x0, rI x1] σ := ro3_453.mpr ⟨C, y, hY, by
    exact f0⟩
  exact ⟨p, fun _ => rfl, ⟨(fun q h => by cases h), fun q h => (by cases h), (fun f h => by cases h), (aAllc ⟨_, rfl, (rF_b (r := 7250) (by decide) rfl).mpr q0⟩ (fun f h => by cases h))⟩, [], List.mem_cons_self, fun f h => (by cases h)⟩
theorem rw_roLb {N : Int} {K : Nat → Nat} {n : Nat} {JX : (Nat → jcell) → Prop} : aGho (rH N K n) fa_T K n JX ag_roLb := by
  refine aGho_of ⟨rfl, rfl⟩ ?_
  intro p σ ρ hH hX hA hM0
  have hG := aAG_of hA.1 (fun i e v he hv => (hA.2 i e v he hv).1)
  clear hA
  obtain ⟨v0, v1, rfl, g0, g1⟩ := rA_2 hG
  clear hG
  obtain ⟨x0, rfl, b0, d0⟩ := rG_ref (by decide) g0
  obtain ⟨x1, rfl, b1, d1⟩ := aG_int g1
  dsimp only at b1 d1
  obtain ⟨m1, m2, m3, m4⟩ := hM0
  obtain ⟨T, hT⟩ := rTe_ex hH b0 d0
  have f0 : rB3 N K n p 453 [rR x0, rI x1] σ := by
    obtain ⟨w, e6, e7⟩ := m4 (7250, [0, 1]) (List.mem_of_getElem? (i := 0) rfl)
    obtain rfl : [rR x0, rI x1] = w := Option.some.inj (show some [rR x0, rI x1] = some w from e6)
    exact (rF_b (r := 7250) (by decide) rfl).mp e7
  obtain ⟨C, y, hY, f0⟩ := ro3_453.mp f0
  clear m1 m2 m3 m4
  have q0 : rB3 N K n p 450 [rR x0, rI x1] σ := ro3_450.mpr ⟨C, y, hY, by
    exact f0⟩
  exact ⟨p, fun _ => rfl, ⟨(fun q h => by cases h), fun q h => (by cases h), (fun f h => by cases h), (aAllc ⟨_, rfl, (rF_b (r := 7202) (by decide) rfl).mpr q0⟩ (fun f h => by cases h))⟩, [], List.mem_cons_self, fun f h => (by cases h)⟩
theorem rw_rlGE {N : Int} {K : Nat → Nat} {n : Nat} {JX : (Nat → jcell) → Prop} : aGho (rH N K n) fa_T K n JX ag_rlGE := by
  refine aGho_of ⟨rfl, rfl⟩ ?_
  intro p σ ρ hH hX hA hM0
  have hG := aAG_of hA.1 (fun i e v he hv => (hA.2 i e v he hv).1)
  clear hA
  obtain ⟨v0, v1, rfl, g0, g1⟩ := rA_2 hG
  clear hG
  obtain ⟨x0, rfl, b0, d0⟩ := aG_int g0
  dsimp only at b0 d0
  obtain ⟨x1, rfl, b1, d1⟩ := aG_int g1
  dsimp only at b1 d1
  obtain ⟨m1, m2, m3, m4⟩ := hM0
  have l0 : 0 ≤ (1 * x1.toInt + (-1 * x0.toInt + 0)) + 0 := by
    obtain ⟨z, e6, e7⟩ := m3 ([(1, 1), (0, -1)], 0) (List.mem_of_getElem? (i := 0) rfl)
    obtain rfl : (1 * x1.toInt + (-1 * x0.toInt + 0)) = z := Option.some.inj (show some (1 * x1.toInt + (-1 * x0.toInt + 0)) = some z from e6)
    exact e7
  clear m1 m2 m3 m4
  have r0 : 0 ≤ (1 * x1.toInt + (-1 * x0.toInt + 0)) + 0 := by
    omega
  exact ⟨p, fun _ => rfl, ⟨(fun q h => by cases h), fun q h => (by cases h), (aAllc ⟨_, rfl, r0⟩ (fun f h => by cases h)), (fun f h => by cases h)⟩, [], List.mem_cons_self, fun f h => (by cases h)⟩

