/-! the reference: rules of uN -/
theorem rqT (k : Nat) (hk : k < 19) : (10 : Int) ^ k ≤ 1000000000000000000 ∧ 1 ≤ (10 : Int) ^ k := by
  match k, hk with
  | 0, _ => exact ⟨by decide, by decide⟩
  | 1, _ => exact ⟨by decide, by decide⟩
  | 2, _ => exact ⟨by decide, by decide⟩
  | 3, _ => exact ⟨by decide, by decide⟩
  | 4, _ => exact ⟨by decide, by decide⟩
  | 5, _ => exact ⟨by decide, by decide⟩
  | 6, _ => exact ⟨by decide, by decide⟩
  | 7, _ => exact ⟨by decide, by decide⟩
  | 8, _ => exact ⟨by decide, by decide⟩
  | 9, _ => exact ⟨by decide, by decide⟩
  | 10, _ => exact ⟨by decide, by decide⟩
  | 11, _ => exact ⟨by decide, by decide⟩
  | 12, _ => exact ⟨by decide, by decide⟩
  | 13, _ => exact ⟨by decide, by decide⟩
  | 14, _ => exact ⟨by decide, by decide⟩
  | 15, _ => exact ⟨by decide, by decide⟩
  | 16, _ => exact ⟨by decide, by decide⟩
  | 17, _ => exact ⟨by decide, by decide⟩
  | 18, _ => exact ⟨by decide, by decide⟩
  | k + 19, h => omega
theorem rqM {x y : Int64} (h : y.toInt = 10) {k : Nat} (hk : k < 18) (hx : x.toInt = 10 ^ k) : (x * y).toInt = 10 ^ (k + 1) := by
  have h1 := rqT (k + 1) (by omega)
  have e : (10 : Int) ^ (k + 1) = 10 ^ k * 10 := Int.pow_succ 10 k
  rw [Int64.toInt_mul, hx, h, ← e, Int.bmod_eq_of_le (by omega) (by omega)]
theorem rqQ {x y : Int64} (h : y.toInt = 10) {k : Nat} (hk : k < 18) (hx : x.toInt = 10 ^ (k + 1)) : (x / y).toInt = 10 ^ k := by
  have h1 := rqT k (by omega)
  have e : (10 : Int) ^ (k + 1) = 10 ^ k * 10 := Int.pow_succ 10 k
  rw [Int64.toInt_div, hx, h, e, Int.mul_tdiv_cancel _ (by decide), Int.bmod_eq_of_le (by omega) (by omega)]
theorem rqO {x y : Int64} (h : y.toInt = 10) (hx : x.toInt = 1) : (x / y).toInt = 0 := by
  rw [Int64.toInt_div, hx, h]
  decide
theorem rw_rvN3 {N : Int} {K : Nat → Nat} {n : Nat} {JX : (Nat → jcell) → Prop} : aGho (rH N K n) fa_T K n JX ag_rvN3 := by
  refine aGho_of ⟨rfl, rfl⟩ ?_
  intro p σ ρ hH hX hA hM0
  have hG := aAG_of hA.1 (fun i e v he hv => (hA.2 i e v he hv).1)
  clear hA
  obtain ⟨v0, rfl, g0⟩ := rA_1 hG
  clear hG
  obtain ⟨x0, rfl, b0, d0⟩ := aG_int g0
  dsimp only at b0 d0
  obtain ⟨m1, m2, m3, m4⟩ := hM0
  clear m1 m2 m3 m4
  have hd : (0 ≤ (1 * x0.toInt + 0) + -1 ∧ 0 ≤ (-1 * x0.toInt + 0) + 1) ∨ (0 ≤ (1 * x0.toInt + 0) + -2 ∧ 0 ≤ (-1 * x0.toInt + 0) + 2) ∨ (0 ≤ (1 * x0.toInt + 0) + -3 ∧ 0 ≤ (-1 * x0.toInt + 0) + 3) := by
    omega
  rcases hd with ⟨w0, w1⟩ | ⟨w0, w1⟩ | ⟨w0, w1⟩
  · exact ⟨p, fun _ => rfl, ⟨(fun q h => by cases h), fun q h => (by cases h), (fun f h => by cases h), (fun f h => by cases h)⟩, _, List.mem_of_getElem? (i := 0) rfl, (aAllc ⟨_, rfl, w0⟩ (aAllc ⟨_, rfl, w1⟩ (fun f h => by cases h)))⟩
  · exact ⟨p, fun _ => rfl, ⟨(fun q h => by cases h), fun q h => (by cases h), (fun f h => by cases h), (fun f h => by cases h)⟩, _, List.mem_of_getElem? (i := 1) rfl, (aAllc ⟨_, rfl, w0⟩ (aAllc ⟨_, rfl, w1⟩ (fun f h => by cases h)))⟩
  · exact ⟨p, fun _ => rfl, ⟨(fun q h => by cases h), fun q h => (by cases h), (fun f h => by cases h), (fun f h => by cases h)⟩, _, List.mem_of_getElem? (i := 2) rfl, (aAllc ⟨_, rfl, w0⟩ (aAllc ⟨_, rfl, w1⟩ (fun f h => by cases h)))⟩
theorem rw_rqW0 {N : Int} {K : Nat → Nat} {n : Nat} {JX : (Nat → jcell) → Prop} : aGho (rH N K n) fa_T K n JX ag_rqW0 := by
  refine aGho_n1 (b := (1, 1)) rfl rfl ?_
  intro p σ ρ hH hX hA hM0
  have hG := aAG_of hA.1 (fun i e v he hv => (hA.2 i e v he hv).1)
  clear hA
  obtain ⟨v0, rfl, g0⟩ := rA_1 hG
  clear hG
  obtain ⟨x0, rfl⟩ := aG_lng g0
  obtain ⟨m1, m2, m3, m4⟩ := hM0
  have l0 : 0 ≤ (1 * x0.toInt + 0) + -1 := by
    obtain ⟨z, e6, e7⟩ := m3 ([(0, 1)], -1) (List.mem_of_getElem? (i := 0) rfl)
    obtain rfl : (1 * x0.toInt + 0) = z := Option.some.inj (show some (1 * x0.toInt + 0) = some z from e6)
    exact e7
  have l1 : 0 ≤ (-1 * x0.toInt + 0) + 1 := by
    obtain ⟨z, e6, e7⟩ := m3 ([(0, -1)], 1) (List.mem_of_getElem? (i := 1) rfl)
    obtain rfl : (-1 * x0.toInt + 0) = z := Option.some.inj (show some (-1 * x0.toInt + 0) = some z from e6)
    exact e7
  clear m1 m2 m3 m4
  obtain ⟨x1, e1⟩ := rI32x (z := 1) (by omega) (by omega)
  have b1 : 1 ≤ x1.toInt := by omega
  have d1 : x1.toInt ≤ 1 := by omega
  have q0 : rB3 N K n p 496 [rL x0, rI x1] σ := ro3_496.mpr (by
    exact Or.inr ⟨by omega, by omega, by rw [show (x1.toInt - 1).toNat = 0 by omega]; omega⟩)
  exact ⟨p, x1, fun _ => rfl, b1, d1, ⟨(fun q h => by cases h), fun q h => (by cases h), (fun f h => by cases h), (aAllc ⟨_, rfl, (rF_b (r := 7938) (by decide) rfl).mpr q0⟩ (fun f h => by cases h))⟩, [], List.mem_cons_self, fun f h => (by cases h)⟩
theorem rw_rqA {N : Int} {K : Nat → Nat} {n : Nat} {JX : (Nat → jcell) → Prop} : aGho (rH N K n) fa_T K n JX ag_rqA := by
  refine aGho_of ⟨rfl, rfl⟩ ?_
  intro p σ ρ hH hX hA hM0
  have hG := aAG_of hA.1 (fun i e v he hv => (hA.2 i e v he hv).1)
  clear hA
  obtain ⟨v0, v1, v2, v3, v4, v5, rfl, g0, g1, g2, g3, g4, g5⟩ := rA_6 hG
  clear hG
  obtain ⟨x0, rfl⟩ := aG_lng g0
  obtain ⟨x1, rfl⟩ := aG_lng g1
  obtain ⟨x2, rfl⟩ := aG_lng g2
  obtain ⟨x3, rfl⟩ := aG_lng g3
  obtain ⟨x4, rfl, b4, d4⟩ := aG_int g4
  dsimp only at b4 d4
  obtain ⟨x5, rfl, b5, d5⟩ := aG_int g5
  dsimp only at b5 d5
  obtain ⟨m1, m2, m3, m4⟩ := hM0
  have l0 : 0 ≤ (1 * x1.toInt + 0) + -10 := by
    obtain ⟨z, e6, e7⟩ := m3 ([(1, 1)], -10) (List.mem_of_getElem? (i := 0) rfl)
    obtain rfl : (1 * x1.toInt + 0) = z := Option.some.inj (show some (1 * x1.toInt + 0) = some z from e6)
    exact e7
  have l1 : 0 ≤ (-1 * x1.toInt + 0) + 10 := by
    obtain ⟨z, e6, e7⟩ := m3 ([(1, -1)], 10) (List.mem_of_getElem? (i := 1) rfl)
    obtain rfl : (-1 * x1.toInt + 0) = z := Option.some.inj (show some (-1 * x1.toInt + 0) = some z from e6)
    exact e7
  have l2 : 0 ≤ (-1 * x4.toInt + 0) + 0 := by
    obtain ⟨z, e6, e7⟩ := m3 ([(4, -1)], 0) (List.mem_of_getElem? (i := 2) rfl)
    obtain rfl : (-1 * x4.toInt + 0) = z := Option.some.inj (show some (-1 * x4.toInt + 0) = some z from e6)
    exact e7
  have l3 : 0 ≤ (-1 * x3.toInt + 0) + 999999999999999999 := by
    obtain ⟨z, e6, e7⟩ := m3 ([(3, -1)], 999999999999999999) (List.mem_of_getElem? (i := 3) rfl)
    obtain rfl : (-1 * x3.toInt + 0) = z := Option.some.inj (show some (-1 * x3.toInt + 0) = some z from e6)
    exact e7
  have f0 : rB3 N K n p 105 [rL x0, rL x1, rL x2] σ := by
    obtain ⟨w, e6, e7⟩ := m4 (1683, [0, 1, 2]) (List.mem_of_getElem? (i := 0) rfl)
    obtain rfl : [rL x0, rL x1, rL x2] = w := Option.some.inj (show some [rL x0, rL x1, rL x2] = some w from e6)
    exact (rF_b (r := 1683) (by decide) rfl).mp e7
  have f0 : x2 = x0 * x1 := Sum.inl.inj (Sum.inr.inj (ro3_105.mp f0))
  have f1 : rB3 N K n p 104 [rL x2, rL x3, rI x4] σ := by
    obtain ⟨w, e6, e7⟩ := m4 (1667, [2, 3, 4]) (List.mem_of_getElem? (i := 1) rfl)
    obtain rfl : [rL x2, rL x3, rI x4] = w := Option.some.inj (show some [rL x2, rL x3, rI x4] = some w from e6)
    exact (rF_b (r := 1667) (by decide) rfl).mp e7
  have f1 : x4 = lg_cmp x2 x3 := Sum.inl.inj (ro3_104.mp f1)
  have f2 : rB3 N K n p 496 [rL x0, rI x5] σ := by
    obtain ⟨w, e6, e7⟩ := m4 (7938, [0, 5]) (List.mem_of_getElem? (i := 2) rfl)
    obtain rfl : [rL x0, rI x5] = w := Option.some.inj (show some [rL x0, rI x5] = some w from e6)
    exact (rF_b (r := 7938) (by decide) rfl).mp e7
  have f2 := ro3_496.mp f2
  clear m1 m2 m3 m4
  have r0 : 0 ≤ (-1 * x5.toInt + 0) + 17 := by
    have e2 : x2 = x0 * x1 := f0
    have e4 : x4 = lg_cmp x2 x3 := f1
    by_cases h18 : x5.toInt = 18
    · rcases f2 with f2 | ⟨-, -, f2⟩
      · omega
      · rw [show (x5.toInt - 1).toNat = 17 by omega] at f2
        have m1 := rqM (x := x0) (y := x1) (by omega) (k := 17) (by omega) f2
        rw [← e2, show (10 : Int) ^ (17 + 1) = 1000000000000000000 from by decide] at m1
        rcases aLc_c x2 x3 with ⟨h1, h2⟩ | ⟨h1, h2⟩ | ⟨h1, h2⟩ <;> rw [← e4] at h2 <;> omega
    · omega
  exact ⟨p, fun _ => rfl, ⟨(fun q h => by cases h), fun q h => (by cases h), (aAllc ⟨_, rfl, r0⟩ (fun f h => by cases h)), (fun f h => by cases h)⟩, [], List.mem_cons_self, fun f h => (by cases h)⟩
theorem rw_rqB {N : Int} {K : Nat → Nat} {n : Nat} {JX : (Nat → jcell) → Prop} : aGho (rH N K n) fa_T K n JX ag_rqB := by
  refine aGho_n1 (b := (2, 18)) rfl rfl ?_
  intro p σ ρ hH hX hA hM0
  have hG := aAG_of hA.1 (fun i e v he hv => (hA.2 i e v he hv).1)
  clear hA
  obtain ⟨v0, v1, v2, v3, rfl, g0, g1, g2, g3⟩ := rA_4 hG
  clear hG
  obtain ⟨x0, rfl⟩ := aG_lng g0
  obtain ⟨x1, rfl⟩ := aG_lng g1
  obtain ⟨x2, rfl⟩ := aG_lng g2
  obtain ⟨x3, rfl, b3, d3⟩ := aG_int g3
  dsimp only at b3 d3
  obtain ⟨m1, m2, m3, m4⟩ := hM0
  have l0 : 0 ≤ (1 * x1.toInt + 0) + -10 := by
    obtain ⟨z, e6, e7⟩ := m3 ([(1, 1)], -10) (List.mem_of_getElem? (i := 0) rfl)
    obtain rfl : (1 * x1.toInt + 0) = z := Option.some.inj (show some (1 * x1.toInt + 0) = some z from e6)
    exact e7
  have l1 : 0 ≤ (-1 * x1.toInt + 0) + 10 := by
    obtain ⟨z, e6, e7⟩ := m3 ([(1, -1)], 10) (List.mem_of_getElem? (i := 1) rfl)
    obtain rfl : (-1 * x1.toInt + 0) = z := Option.some.inj (show some (-1 * x1.toInt + 0) = some z from e6)
    exact e7
  have f0 : rB3 N K n p 105 [rL x0, rL x1, rL x2] σ := by
    obtain ⟨w, e6, e7⟩ := m4 (1683, [0, 1, 2]) (List.mem_of_getElem? (i := 0) rfl)
    obtain rfl : [rL x0, rL x1, rL x2] = w := Option.some.inj (show some [rL x0, rL x1, rL x2] = some w from e6)
    exact (rF_b (r := 1683) (by decide) rfl).mp e7
  have f0 : x2 = x0 * x1 := Sum.inl.inj (Sum.inr.inj (ro3_105.mp f0))
  have f1 : rB3 N K n p 496 [rL x0, rI x3] σ := by
    obtain ⟨w, e6, e7⟩ := m4 (7938, [0, 3]) (List.mem_of_getElem? (i := 1) rfl)
    obtain rfl : [rL x0, rI x3] = w := Option.some.inj (show some [rL x0, rI x3] = some w from e6)
    exact (rF_b (r := 7938) (by decide) rfl).mp e7
  have f1 := ro3_496.mp f1
  clear m1 m2 m3 m4
  obtain ⟨x4, e4⟩ := rI32x (z := x3.toInt + 1) (by omega) (by omega)
  have b4 : 2 ≤ x4.toInt := by omega
  have d4 : x4.toInt ≤ 18 := by omega
  have r0 : 0 ≤ (1 * x4.toInt + (-1 * x3.toInt + 0)) + -1 := by
    omega
  have r1 : 0 ≤ (-1 * x4.toInt + (1 * x3.toInt + 0)) + 1 := by
    omega
  have q0 : rB3 N K n p 496 [rL x2, rI x4] σ := ro3_496.mpr (by
    have e2 : x2 = x0 * x1 := f0
    rcases f1 with f1 | ⟨-, -, f1⟩
    · omega
    · refine Or.inr ⟨by omega, by omega, ?_⟩
      have m1 := rqM (x := x0) (y := x1) (by omega) (k := (x3.toInt - 1).toNat) (by omega) f1
      rw [← e2, show (x3.toInt - 1).toNat + 1 = (x4.toInt - 1).toNat by omega] at m1
      exact m1)
  exact ⟨p, x4, fun _ => rfl, b4, d4, ⟨(fun q h => by cases h), fun q h => (by cases h), (aAllc ⟨_, rfl, r0⟩ (aAllc ⟨_, rfl, r1⟩ (fun f h => by cases h))), (aAllc ⟨_, rfl, (rF_b (r := 7938) (by decide) rfl).mpr q0⟩ (fun f h => by cases h))⟩, [], List.mem_cons_self, fun f h => (by cases h)⟩
theorem rw_rqC {N : Int} {K : Nat → Nat} {n : Nat} {JX : (Nat → jcell) → Prop} : aGho (rH N K n) fa_T K n JX ag_rqC := by
  refine aGho_of ⟨rfl, rfl⟩ ?_
  intro p σ ρ hH hX hA hM0
  have hG := aAG_of hA.1 (fun i e v he hv => (hA.2 i e v he hv).1)
  clear hA
  obtain ⟨v0, v1, v2, v3, rfl, g0, g1, g2, g3⟩ := rA_4 hG
  clear hG
  obtain ⟨x0, rfl⟩ := aG_lng g0
  obtain ⟨x1, rfl⟩ := aG_lng g1
  obtain ⟨x2, rfl, b2, d2⟩ := aG_int g2
  dsimp only at b2 d2
  obtain ⟨x3, rfl, b3, d3⟩ := aG_int g3
  dsimp only at b3 d3
  obtain ⟨m1, m2, m3, m4⟩ := hM0
  have l0 : 0 ≤ (1 * x1.toInt + 0) + 0 := by
    obtain ⟨z, e6, e7⟩ := m3 ([(1, 1)], 0) (List.mem_of_getElem? (i := 0) rfl)
    obtain rfl : (1 * x1.toInt + 0) = z := Option.some.inj (show some (1 * x1.toInt + 0) = some z from e6)
    exact e7
  have l1 : 0 ≤ (-1 * x1.toInt + 0) + 0 := by
    obtain ⟨z, e6, e7⟩ := m3 ([(1, -1)], 0) (List.mem_of_getElem? (i := 1) rfl)
    obtain rfl : (-1 * x1.toInt + 0) = z := Option.some.inj (show some (-1 * x1.toInt + 0) = some z from e6)
    exact e7
  have l2 : 0 ≤ (1 * x2.toInt + 0) + -1 := by
    obtain ⟨z, e6, e7⟩ := m3 ([(2, 1)], -1) (List.mem_of_getElem? (i := 2) rfl)
    obtain rfl : (1 * x2.toInt + 0) = z := Option.some.inj (show some (1 * x2.toInt + 0) = some z from e6)
    exact e7
  have f0 : rB3 N K n p 104 [rL x0, rL x1, rI x2] σ := by
    obtain ⟨w, e6, e7⟩ := m4 (1667, [0, 1, 2]) (List.mem_of_getElem? (i := 0) rfl)
    obtain rfl : [rL x0, rL x1, rI x2] = w := Option.some.inj (show some [rL x0, rL x1, rI x2] = some w from e6)
    exact (rF_b (r := 1667) (by decide) rfl).mp e7
  have f0 : x2 = lg_cmp x0 x1 := Sum.inl.inj (ro3_104.mp f0)
  have f1 : rB3 N K n p 496 [rL x0, rI x3] σ := by
    obtain ⟨w, e6, e7⟩ := m4 (7938, [0, 3]) (List.mem_of_getElem? (i := 1) rfl)
    obtain rfl : [rL x0, rI x3] = w := Option.some.inj (show some [rL x0, rI x3] = some w from e6)
    exact (rF_b (r := 7938) (by decide) rfl).mp e7
  have f1 := ro3_496.mp f1
  clear m1 m2 m3 m4
  have r0 : 0 ≤ (1 * x0.toInt + 0) + -1 := by
    have e4 : x2 = lg_cmp x0 x1 := f0
    rcases aLc_c x0 x1 with ⟨h1, h2⟩ | ⟨h1, h2⟩ | ⟨h1, h2⟩ <;> rw [← e4] at h2
    · omega
    · omega
    · rcases f1 with f1 | f1 <;> omega
  have r1 : 0 ≤ (1 * x3.toInt + 0) + -1 := by
    have e4 : x2 = lg_cmp x0 x1 := f0
    rcases aLc_c x0 x1 with ⟨h1, h2⟩ | ⟨h1, h2⟩ | ⟨h1, h2⟩ <;> rw [← e4] at h2
    · omega
    · omega
    · rcases f1 with f1 | f1 <;> omega
  exact ⟨p, fun _ => rfl, ⟨(fun q h => by cases h), fun q h => (by cases h), (aAllc ⟨_, rfl, r0⟩ (aAllc ⟨_, rfl, r1⟩ (fun f h => by cases h))), (fun f h => by cases h)⟩, [], List.mem_cons_self, fun f h => (by cases h)⟩
theorem rw_rqD {N : Int} {K : Nat → Nat} {n : Nat} {JX : (Nat → jcell) → Prop} : aGho (rH N K n) fa_T K n JX ag_rqD := by
  refine aGho_n1 (b := (0, 17)) rfl rfl ?_
  intro p σ ρ hH hX hA hM0
  have hG := aAG_of hA.1 (fun i e v he hv => (hA.2 i e v he hv).1)
  clear hA
  obtain ⟨v0, v1, v2, v3, rfl, g0, g1, g2, g3⟩ := rA_4 hG
  clear hG
  obtain ⟨x0, rfl⟩ := aG_lng g0
  obtain ⟨x1, rfl⟩ := aG_lng g1
  obtain ⟨x2, rfl⟩ := aG_lng g2
  obtain ⟨x3, rfl, b3, d3⟩ := aG_int g3
  dsimp only at b3 d3
  obtain ⟨m1, m2, m3, m4⟩ := hM0
  have l0 : 0 ≤ (1 * x1.toInt + 0) + -10 := by
    obtain ⟨z, e6, e7⟩ := m3 ([(1, 1)], -10) (List.mem_of_getElem? (i := 0) rfl)
    obtain rfl : (1 * x1.toInt + 0) = z := Option.some.inj (show some (1 * x1.toInt + 0) = some z from e6)
    exact e7
  have l1 : 0 ≤ (-1 * x1.toInt + 0) + 10 := by
    obtain ⟨z, e6, e7⟩ := m3 ([(1, -1)], 10) (List.mem_of_getElem? (i := 1) rfl)
    obtain rfl : (-1 * x1.toInt + 0) = z := Option.some.inj (show some (-1 * x1.toInt + 0) = some z from e6)
    exact e7
  have f0 : rB3 N K n p 106 [rL x0, rL x1, rL x2] σ := by
    obtain ⟨w, e6, e7⟩ := m4 (1699, [0, 1, 2]) (List.mem_of_getElem? (i := 0) rfl)
    obtain rfl : [rL x0, rL x1, rL x2] = w := Option.some.inj (show some [rL x0, rL x1, rL x2] = some w from e6)
    exact (rF_b (r := 1699) (by decide) rfl).mp e7
  have f0 : ¬ x1 = 0 ∧ x2 = x0 / x1 := ⟨(ro3_106.mp f0).1, Sum.inl.inj (Sum.inr.inj ((ro3_106.mp f0).2))⟩
  have f1 : rB3 N K n p 496 [rL x0, rI x3] σ := by
    obtain ⟨w, e6, e7⟩ := m4 (7938, [0, 3]) (List.mem_of_getElem? (i := 1) rfl)
    obtain rfl : [rL x0, rI x3] = w := Option.some.inj (show some [rL x0, rI x3] = some w from e6)
    exact (rF_b (r := 7938) (by decide) rfl).mp e7
  have f1 := ro3_496.mp f1
  clear m1 m2 m3 m4
  obtain ⟨x4, e4⟩ := rI32x (z := x3.toInt - 1) (by omega) (by omega)
  have b4 : 0 ≤ x4.toInt := by omega
  have d4 : x4.toInt ≤ 17 := by omega
  have r0 : 0 ≤ (1 * x4.toInt + (-1 * x3.toInt + 0)) + 1 := by
    omega
  have r1 : 0 ≤ (-1 * x4.toInt + (1 * x3.toInt + 0)) + -1 := by
    omega
  have q0 : rB3 N K n p 496 [rL x2, rI x4] σ := ro3_496.mpr (by
    have e2 : x2 = x0 / x1 := f0.2
    rcases f1 with f1 | ⟨-, -, f1⟩
    · omega
    · by_cases h1 : x3.toInt = 1
      · refine Or.inl ⟨by omega, ?_⟩
        rw [show (x3.toInt - 1).toNat = 0 by omega] at f1
        rw [e2]
        exact rqO (by omega) f1
      · refine Or.inr ⟨by omega, by omega, ?_⟩
        rw [show (x3.toInt - 1).toNat = (x4.toInt - 1).toNat + 1 by omega] at f1
        rw [e2]
        exact rqQ (by omega) (by omega) f1)
  exact ⟨p, x4, fun _ => rfl, b4, d4, ⟨(fun q h => by cases h), fun q h => (by cases h), (aAllc ⟨_, rfl, r0⟩ (aAllc ⟨_, rfl, r1⟩ (fun f h => by cases h))), (aAllc ⟨_, rfl, (rF_b (r := 7938) (by decide) rfl).mpr q0⟩ (fun f h => by cases h))⟩, [], List.mem_cons_self, fun f h => (by cases h)⟩

