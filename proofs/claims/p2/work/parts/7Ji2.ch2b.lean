/-! CLASS: how far feed has come -/
theorem rw_ruFd2 {K : Nat → Nat} {n : Nat} : aGho (fF K n) fa_T K n (fJX K n) ag_ruFd2 := by
  refine aGho_of ⟨rfl, rfl⟩ ?_
  intro p σ ρ hH hX hA hM0
  have hG := aAG_of hA.1 (fun i e v he hv => (hA.2 i e v he hv).1)
  clear hA
  obtain ⟨v0, v1, rfl, g0, g1⟩ := rA_2 hG
  clear hG
  obtain ⟨x0, rfl, b0, d0⟩ := aG_int g0
  dsimp only at b0 d0
  obtain ⟨x1, rfl, b1, d1⟩ := aG_int g1
  dsimp only at b1 d1
  obtain ⟨m1, m2, m3, m4⟩ := hM0
  have l0 : 0 ≤ (1 * x1.toInt + (-1 * x0.toInt + 0)) + -8 := by
    obtain ⟨z, e6, e7⟩ := m3 ([(1, 1), (0, -1)], -8) (List.mem_of_getElem? (i := 0) rfl)
    obtain rfl : (1 * x1.toInt + (-1 * x0.toInt + 0)) = z := Option.some.inj (show some (1 * x1.toInt + (-1 * x0.toInt + 0)) = some z from e6)
    exact e7
  have l1 : 0 ≤ (-1 * x1.toInt + (1 * x0.toInt + 0)) + 8 := by
    obtain ⟨z, e6, e7⟩ := m3 ([(1, -1), (0, 1)], 8) (List.mem_of_getElem? (i := 1) rfl)
    obtain rfl : (-1 * x1.toInt + (1 * x0.toInt + 0)) = z := Option.some.inj (show some (-1 * x1.toInt + (1 * x0.toInt + 0)) = some z from e6)
    exact e7
  clear m1 m2 m3 m4
  exact ⟨p, fun _ => rfl, ⟨(fun q h => by cases h), fun q h => (by cases h), (aAllc ⟨_, rfl, l0⟩ (aAllc ⟨_, rfl, l1⟩ (fun f h => by cases h))), (fun f h => by cases h)⟩, [], List.mem_cons_self, fun f h => (by cases h)⟩
theorem rw_ruFd3 {K : Nat → Nat} {n : Nat} : aGho (fF K n) fa_T K n (fJX K n) ag_ruFd3 := by
  refine aGho_of ⟨rfl, rfl⟩ ?_
  intro p σ ρ hH hX hA hM0
  have hG := aAG_of hA.1 (fun i e v he hv => (hA.2 i e v he hv).1)
  clear hA
  obtain ⟨v0, v1, rfl, g0, g1⟩ := rA_2 hG
  clear hG
  obtain ⟨x0, rfl, b0, d0⟩ := aG_int g0
  dsimp only at b0 d0
  obtain ⟨x1, rfl, b1, d1⟩ := aG_int g1
  dsimp only at b1 d1
  obtain ⟨m1, m2, m3, m4⟩ := hM0
  have l0 : 0 ≤ (1 * x1.toInt + (-1 * x0.toInt + 0)) + -12 := by
    obtain ⟨z, e6, e7⟩ := m3 ([(1, 1), (0, -1)], -12) (List.mem_of_getElem? (i := 0) rfl)
    obtain rfl : (1 * x1.toInt + (-1 * x0.toInt + 0)) = z := Option.some.inj (show some (1 * x1.toInt + (-1 * x0.toInt + 0)) = some z from e6)
    exact e7
  have l1 : 0 ≤ (-1 * x1.toInt + (1 * x0.toInt + 0)) + 12 := by
    obtain ⟨z, e6, e7⟩ := m3 ([(1, -1), (0, 1)], 12) (List.mem_of_getElem? (i := 1) rfl)
    obtain rfl : (-1 * x1.toInt + (1 * x0.toInt + 0)) = z := Option.some.inj (show some (-1 * x1.toInt + (1 * x0.toInt + 0)) = some z from e6)
    exact e7
  clear m1 m2 m3 m4
  exact ⟨p, fun _ => rfl, ⟨(fun q h => by cases h), fun q h => (by cases h), (aAllc ⟨_, rfl, l0⟩ (aAllc ⟨_, rfl, l1⟩ (fun f h => by cases h))), (fun f h => by cases h)⟩, [], List.mem_cons_self, fun f h => (by cases h)⟩
theorem rw_ruFd4 {K : Nat → Nat} {n : Nat} : aGho (fF K n) fa_T K n (fJX K n) ag_ruFd4 := by
  refine aGho_of ⟨rfl, rfl⟩ ?_
  intro p σ ρ hH hX hA hM0
  have hG := aAG_of hA.1 (fun i e v he hv => (hA.2 i e v he hv).1)
  clear hA
  obtain ⟨v0, v1, rfl, g0, g1⟩ := rA_2 hG
  clear hG
  obtain ⟨x0, rfl, b0, d0⟩ := aG_int g0
  dsimp only at b0 d0
  obtain ⟨x1, rfl, b1, d1⟩ := aG_int g1
  dsimp only at b1 d1
  obtain ⟨m1, m2, m3, m4⟩ := hM0
  have l0 : 0 ≤ (1 * x1.toInt + (-1 * x0.toInt + 0)) + -16 := by
    obtain ⟨z, e6, e7⟩ := m3 ([(1, 1), (0, -1)], -16) (List.mem_of_getElem? (i := 0) rfl)
    obtain rfl : (1 * x1.toInt + (-1 * x0.toInt + 0)) = z := Option.some.inj (show some (1 * x1.toInt + (-1 * x0.toInt + 0)) = some z from e6)
    exact e7
  have l1 : 0 ≤ (-1 * x1.toInt + (1 * x0.toInt + 0)) + 16 := by
    obtain ⟨z, e6, e7⟩ := m3 ([(1, -1), (0, 1)], 16) (List.mem_of_getElem? (i := 1) rfl)
    obtain rfl : (-1 * x1.toInt + (1 * x0.toInt + 0)) = z := Option.some.inj (show some (-1 * x1.toInt + (1 * x0.toInt + 0)) = some z from e6)
    exact e7
  clear m1 m2 m3 m4
  exact ⟨p, fun _ => rfl, ⟨(fun q h => by cases h), fun q h => (by cases h), (aAllc ⟨_, rfl, l0⟩ (aAllc ⟨_, rfl, l1⟩ (fun f h => by cases h))), (fun f h => by cases h)⟩, [], List.mem_cons_self, fun f h => (by cases h)⟩
theorem rw_ruFd5 {K : Nat → Nat} {n : Nat} : aGho (fF K n) fa_T K n (fJX K n) ag_ruFd5 := by
  refine aGho_of ⟨rfl, rfl⟩ ?_
  intro p σ ρ hH hX hA hM0
  have hG := aAG_of hA.1 (fun i e v he hv => (hA.2 i e v he hv).1)
  clear hA
  obtain ⟨v0, v1, rfl, g0, g1⟩ := rA_2 hG
  clear hG
  obtain ⟨x0, rfl, b0, d0⟩ := aG_int g0
  dsimp only at b0 d0
  obtain ⟨x1, rfl, b1, d1⟩ := aG_int g1
  dsimp only at b1 d1
  obtain ⟨m1, m2, m3, m4⟩ := hM0
  have l0 : 0 ≤ (1 * x1.toInt + (-1 * x0.toInt + 0)) + -20 := by
    obtain ⟨z, e6, e7⟩ := m3 ([(1, 1), (0, -1)], -20) (List.mem_of_getElem? (i := 0) rfl)
    obtain rfl : (1 * x1.toInt + (-1 * x0.toInt + 0)) = z := Option.some.inj (show some (1 * x1.toInt + (-1 * x0.toInt + 0)) = some z from e6)
    exact e7
  have l1 : 0 ≤ (-1 * x1.toInt + (1 * x0.toInt + 0)) + 20 := by
    obtain ⟨z, e6, e7⟩ := m3 ([(1, -1), (0, 1)], 20) (List.mem_of_getElem? (i := 1) rfl)
    obtain rfl : (-1 * x1.toInt + (1 * x0.toInt + 0)) = z := Option.some.inj (show some (-1 * x1.toInt + (1 * x0.toInt + 0)) = some z from e6)
    exact e7
  clear m1 m2 m3 m4
  exact ⟨p, fun _ => rfl, ⟨(fun q h => by cases h), fun q h => (by cases h), (aAllc ⟨_, rfl, l0⟩ (aAllc ⟨_, rfl, l1⟩ (fun f h => by cases h))), (fun f h => by cases h)⟩, [], List.mem_cons_self, fun f h => (by cases h)⟩
