/-! the reference: rules of g3 -/
theorem rw_rvLO0 {K : Nat → Nat} {n : Nat} {JX : (Nat → jcell) → Prop} : aGho (rF K n) fa_T K n JX ag_rvLO0 := by
  refine aGho_of ⟨rfl, rfl⟩ ?_
  intro p σ ρ hH hX hA hM0
  have hG := aAG_of hA.1 (fun i e v he hv => (hA.2 i e v he hv).1)
  clear hA
  obtain ⟨v0, v1, rfl, g0, g1⟩ := rA_2 hG
  clear hG
  obtain ⟨x0, rfl, b0, d0⟩ := aG_int g0
  dsimp only at b0 d0
  obtain ⟨x1, rfl, b1, d1⟩ := aG_int g1
  dsimp only at b1 d1
  obtain ⟨m1, m2, m3, m4⟩ := hM0
  clear m1 m2 m3 m4
  have q0 : rB K n p 162 [rI x0, rI x1] σ := ro_162.mpr (by
    unfold rLo
    split
    · omega
    · split
      · omega
      · split
        · omega
        · split
          · omega
          · split
            · omega
            · split
              · omega
              · omega)
  exact ⟨p, fun _ => rfl, ⟨(fun q h => by cases h), fun q h => (by cases h), (fun f h => by cases h), (aAllc ⟨_, rfl, (rF_b (r := 2594) (by decide) rfl).mpr q0⟩ (fun f h => by cases h))⟩, [], List.mem_cons_self, fun f h => (by cases h)⟩
theorem rw_rvLO1 {K : Nat → Nat} {n : Nat} {JX : (Nat → jcell) → Prop} : aGho (rF K n) fa_T K n JX ag_rvLO1 := by
  refine aGho_of ⟨rfl, rfl⟩ ?_
  intro p σ ρ hH hX hA hM0
  have hG := aAG_of hA.1 (fun i e v he hv => (hA.2 i e v he hv).1)
  clear hA
  obtain ⟨v0, v1, rfl, g0, g1⟩ := rA_2 hG
  clear hG
  obtain ⟨x0, rfl, b0, d0⟩ := aG_int g0
  dsimp only at b0 d0
  obtain ⟨x1, rfl, b1, d1⟩ := aG_int g1
  dsimp only at b1 d1
  obtain ⟨m1, m2, m3, m4⟩ := hM0
  clear m1 m2 m3 m4
  have q0 : rB K n p 162 [rI x0, rI x1] σ := ro_162.mpr (by
    unfold rLo
    split
    · omega
    · split
      · omega
      · split
        · omega
        · split
          · omega
          · split
            · omega
            · split
              · omega
              · omega)
  exact ⟨p, fun _ => rfl, ⟨(fun q h => by cases h), fun q h => (by cases h), (fun f h => by cases h), (aAllc ⟨_, rfl, (rF_b (r := 2594) (by decide) rfl).mpr q0⟩ (fun f h => by cases h))⟩, [], List.mem_cons_self, fun f h => (by cases h)⟩
theorem rw_rvLO2 {K : Nat → Nat} {n : Nat} {JX : (Nat → jcell) → Prop} : aGho (rF K n) fa_T K n JX ag_rvLO2 := by
  refine aGho_of ⟨rfl, rfl⟩ ?_
  intro p σ ρ hH hX hA hM0
  have hG := aAG_of hA.1 (fun i e v he hv => (hA.2 i e v he hv).1)
  clear hA
  obtain ⟨v0, v1, rfl, g0, g1⟩ := rA_2 hG
  clear hG
  obtain ⟨x0, rfl, b0, d0⟩ := aG_int g0
  dsimp only at b0 d0
  obtain ⟨x1, rfl, b1, d1⟩ := aG_int g1
  dsimp only at b1 d1
  obtain ⟨m1, m2, m3, m4⟩ := hM0
  clear m1 m2 m3 m4
  have q0 : rB K n p 162 [rI x0, rI x1] σ := ro_162.mpr (by
    unfold rLo
    split
    · omega
    · split
      · omega
      · split
        · omega
        · split
          · omega
          · split
            · omega
            · split
              · omega
              · omega)
  exact ⟨p, fun _ => rfl, ⟨(fun q h => by cases h), fun q h => (by cases h), (fun f h => by cases h), (aAllc ⟨_, rfl, (rF_b (r := 2594) (by decide) rfl).mpr q0⟩ (fun f h => by cases h))⟩, [], List.mem_cons_self, fun f h => (by cases h)⟩
theorem rw_rvLO3 {K : Nat → Nat} {n : Nat} {JX : (Nat → jcell) → Prop} : aGho (rF K n) fa_T K n JX ag_rvLO3 := by
  refine aGho_of ⟨rfl, rfl⟩ ?_
  intro p σ ρ hH hX hA hM0
  have hG := aAG_of hA.1 (fun i e v he hv => (hA.2 i e v he hv).1)
  clear hA
  obtain ⟨v0, v1, rfl, g0, g1⟩ := rA_2 hG
  clear hG
  obtain ⟨x0, rfl, b0, d0⟩ := aG_int g0
  dsimp only at b0 d0
  obtain ⟨x1, rfl, b1, d1⟩ := aG_int g1
  dsimp only at b1 d1
  obtain ⟨m1, m2, m3, m4⟩ := hM0
  clear m1 m2 m3 m4
  have q0 : rB K n p 162 [rI x0, rI x1] σ := ro_162.mpr (by
    unfold rLo
    split
    · omega
    · split
      · omega
      · split
        · omega
        · split
          · omega
          · split
            · omega
            · split
              · omega
              · omega)
  exact ⟨p, fun _ => rfl, ⟨(fun q h => by cases h), fun q h => (by cases h), (fun f h => by cases h), (aAllc ⟨_, rfl, (rF_b (r := 2594) (by decide) rfl).mpr q0⟩ (fun f h => by cases h))⟩, [], List.mem_cons_self, fun f h => (by cases h)⟩
theorem rw_rvLO4 {K : Nat → Nat} {n : Nat} {JX : (Nat → jcell) → Prop} : aGho (rF K n) fa_T K n JX ag_rvLO4 := by
  refine aGho_of ⟨rfl, rfl⟩ ?_
  intro p σ ρ hH hX hA hM0
  have hG := aAG_of hA.1 (fun i e v he hv => (hA.2 i e v he hv).1)
  clear hA
  obtain ⟨v0, v1, rfl, g0, g1⟩ := rA_2 hG
  clear hG
  obtain ⟨x0, rfl, b0, d0⟩ := aG_int g0
  dsimp only at b0 d0
  obtain ⟨x1, rfl, b1, d1⟩ := aG_int g1
  dsimp only at b1 d1
  obtain ⟨m1, m2, m3, m4⟩ := hM0
  clear m1 m2 m3 m4
  have q0 : rB K n p 162 [rI x0, rI x1] σ := ro_162.mpr (by
    unfold rLo
    split
    · omega
    · split
      · omega
      · split
        · omega
        · split
          · omega
          · split
            · omega
            · split
              · omega
              · omega)
  exact ⟨p, fun _ => rfl, ⟨(fun q h => by cases h), fun q h => (by cases h), (fun f h => by cases h), (aAllc ⟨_, rfl, (rF_b (r := 2594) (by decide) rfl).mpr q0⟩ (fun f h => by cases h))⟩, [], List.mem_cons_self, fun f h => (by cases h)⟩
theorem rw_rvLO5 {K : Nat → Nat} {n : Nat} {JX : (Nat → jcell) → Prop} : aGho (rF K n) fa_T K n JX ag_rvLO5 := by
  refine aGho_of ⟨rfl, rfl⟩ ?_
  intro p σ ρ hH hX hA hM0
  have hG := aAG_of hA.1 (fun i e v he hv => (hA.2 i e v he hv).1)
  clear hA
  obtain ⟨v0, v1, rfl, g0, g1⟩ := rA_2 hG
  clear hG
  obtain ⟨x0, rfl, b0, d0⟩ := aG_int g0
  dsimp only at b0 d0
  obtain ⟨x1, rfl, b1, d1⟩ := aG_int g1
  dsimp only at b1 d1
  obtain ⟨m1, m2, m3, m4⟩ := hM0
  clear m1 m2 m3 m4
  have q0 : rB K n p 162 [rI x0, rI x1] σ := ro_162.mpr (by
    unfold rLo
    split
    · omega
    · split
      · omega
      · split
        · omega
        · split
          · omega
          · split
            · omega
            · split
              · omega
              · omega)
  exact ⟨p, fun _ => rfl, ⟨(fun q h => by cases h), fun q h => (by cases h), (fun f h => by cases h), (aAllc ⟨_, rfl, (rF_b (r := 2594) (by decide) rfl).mpr q0⟩ (fun f h => by cases h))⟩, [], List.mem_cons_self, fun f h => (by cases h)⟩
theorem rw_rvLO6 {K : Nat → Nat} {n : Nat} {JX : (Nat → jcell) → Prop} : aGho (rF K n) fa_T K n JX ag_rvLO6 := by
  refine aGho_of ⟨rfl, rfl⟩ ?_
  intro p σ ρ hH hX hA hM0
  have hG := aAG_of hA.1 (fun i e v he hv => (hA.2 i e v he hv).1)
  clear hA
  obtain ⟨v0, v1, rfl, g0, g1⟩ := rA_2 hG
  clear hG
  obtain ⟨x0, rfl, b0, d0⟩ := aG_int g0
  dsimp only at b0 d0
  obtain ⟨x1, rfl, b1, d1⟩ := aG_int g1
  dsimp only at b1 d1
  obtain ⟨m1, m2, m3, m4⟩ := hM0
  clear m1 m2 m3 m4
  have q0 : rB K n p 162 [rI x0, rI x1] σ := ro_162.mpr (by
    unfold rLo
    split
    · omega
    · split
      · omega
      · split
        · omega
        · split
          · omega
          · split
            · omega
            · split
              · omega
              · omega)
  exact ⟨p, fun _ => rfl, ⟨(fun q h => by cases h), fun q h => (by cases h), (fun f h => by cases h), (aAllc ⟨_, rfl, (rF_b (r := 2594) (by decide) rfl).mpr q0⟩ (fun f h => by cases h))⟩, [], List.mem_cons_self, fun f h => (by cases h)⟩
theorem rw_rvLO7 {K : Nat → Nat} {n : Nat} {JX : (Nat → jcell) → Prop} : aGho (rF K n) fa_T K n JX ag_rvLO7 := by
  refine aGho_of ⟨rfl, rfl⟩ ?_
  intro p σ ρ hH hX hA hM0
  have hG := aAG_of hA.1 (fun i e v he hv => (hA.2 i e v he hv).1)
  clear hA
  obtain ⟨v0, v1, rfl, g0, g1⟩ := rA_2 hG
  clear hG
  obtain ⟨x0, rfl, b0, d0⟩ := aG_int g0
  dsimp only at b0 d0
  obtain ⟨x1, rfl, b1, d1⟩ := aG_int g1
  dsimp only at b1 d1
  obtain ⟨m1, m2, m3, m4⟩ := hM0
  clear m1 m2 m3 m4
  have q0 : rB K n p 162 [rI x0, rI x1] σ := ro_162.mpr (by
    unfold rLo
    split
    · omega
    · split
      · omega
      · split
        · omega
        · split
          · omega
          · split
            · omega
            · split
              · omega
              · omega)
  exact ⟨p, fun _ => rfl, ⟨(fun q h => by cases h), fun q h => (by cases h), (fun f h => by cases h), (aAllc ⟨_, rfl, (rF_b (r := 2594) (by decide) rfl).mpr q0⟩ (fun f h => by cases h))⟩, [], List.mem_cons_self, fun f h => (by cases h)⟩
theorem rw_rvLO8 {K : Nat → Nat} {n : Nat} {JX : (Nat → jcell) → Prop} : aGho (rF K n) fa_T K n JX ag_rvLO8 := by
  refine aGho_of ⟨rfl, rfl⟩ ?_
  intro p σ ρ hH hX hA hM0
  have hG := aAG_of hA.1 (fun i e v he hv => (hA.2 i e v he hv).1)
  clear hA
  obtain ⟨v0, v1, rfl, g0, g1⟩ := rA_2 hG
  clear hG
  obtain ⟨x0, rfl, b0, d0⟩ := aG_int g0
  dsimp only at b0 d0
  obtain ⟨x1, rfl, b1, d1⟩ := aG_int g1
  dsimp only at b1 d1
  obtain ⟨m1, m2, m3, m4⟩ := hM0
  clear m1 m2 m3 m4
  have q0 : rB K n p 162 [rI x0, rI x1] σ := ro_162.mpr (by
    unfold rLo
    split
    · omega
    · split
      · omega
      · split
        · omega
        · split
          · omega
          · split
            · omega
            · split
              · omega
              · omega)
  exact ⟨p, fun _ => rfl, ⟨(fun q h => by cases h), fun q h => (by cases h), (fun f h => by cases h), (aAllc ⟨_, rfl, (rF_b (r := 2594) (by decide) rfl).mpr q0⟩ (fun f h => by cases h))⟩, [], List.mem_cons_self, fun f h => (by cases h)⟩
theorem rw_rvLO9 {K : Nat → Nat} {n : Nat} {JX : (Nat → jcell) → Prop} : aGho (rF K n) fa_T K n JX ag_rvLO9 := by
  refine aGho_of ⟨rfl, rfl⟩ ?_
  intro p σ ρ hH hX hA hM0
  have hG := aAG_of hA.1 (fun i e v he hv => (hA.2 i e v he hv).1)
  clear hA
  obtain ⟨v0, v1, rfl, g0, g1⟩ := rA_2 hG
  clear hG
  obtain ⟨x0, rfl, b0, d0⟩ := aG_int g0
  dsimp only at b0 d0
  obtain ⟨x1, rfl, b1, d1⟩ := aG_int g1
  dsimp only at b1 d1
  obtain ⟨m1, m2, m3, m4⟩ := hM0
  clear m1 m2 m3 m4
  have q0 : rB K n p 162 [rI x0, rI x1] σ := ro_162.mpr (by
    unfold rLo
    split
    · omega
    · split
      · omega
      · split
        · omega
        · split
          · omega
          · split
            · omega
            · split
              · omega
              · omega)
  exact ⟨p, fun _ => rfl, ⟨(fun q h => by cases h), fun q h => (by cases h), (fun f h => by cases h), (aAllc ⟨_, rfl, (rF_b (r := 2594) (by decide) rfl).mpr q0⟩ (fun f h => by cases h))⟩, [], List.mem_cons_self, fun f h => (by cases h)⟩
theorem rw_rvLO10 {K : Nat → Nat} {n : Nat} {JX : (Nat → jcell) → Prop} : aGho (rF K n) fa_T K n JX ag_rvLO10 := by
  refine aGho_of ⟨rfl, rfl⟩ ?_
  intro p σ ρ hH hX hA hM0
  have hG := aAG_of hA.1 (fun i e v he hv => (hA.2 i e v he hv).1)
  clear hA
  obtain ⟨v0, v1, rfl, g0, g1⟩ := rA_2 hG
  clear hG
  obtain ⟨x0, rfl, b0, d0⟩ := aG_int g0
  dsimp only at b0 d0
  obtain ⟨x1, rfl, b1, d1⟩ := aG_int g1
  dsimp only at b1 d1
  obtain ⟨m1, m2, m3, m4⟩ := hM0
  clear m1 m2 m3 m4
  have q0 : rB K n p 162 [rI x0, rI x1] σ := ro_162.mpr (by
    unfold rLo
    split
    · omega
    · split
      · omega
      · split
        · omega
        · split
          · omega
          · split
            · omega
            · split
              · omega
              · omega)
  exact ⟨p, fun _ => rfl, ⟨(fun q h => by cases h), fun q h => (by cases h), (fun f h => by cases h), (aAllc ⟨_, rfl, (rF_b (r := 2594) (by decide) rfl).mpr q0⟩ (fun f h => by cases h))⟩, [], List.mem_cons_self, fun f h => (by cases h)⟩
theorem rw_rvK1u {K : Nat → Nat} {n : Nat} {JX : (Nat → jcell) → Prop} : aGho (rF K n) fa_T K n JX ag_rvK1u := by
  refine aGho_of ⟨rfl, rfl⟩ ?_
  intro p σ ρ hH hX hA hM0
  have hG := aAG_of hA.1 (fun i e v he hv => (hA.2 i e v he hv).1)
  clear hA
  obtain ⟨v0, v1, v2, v3, v4, v5, v6, rfl, g0, g1, g2, g3, g4, g5, g6⟩ := rA_7 hG
  clear hG
  obtain ⟨x0, rfl, b0, d0⟩ := rG_ref (by decide) g0
  obtain ⟨x1, rfl, b1, d1⟩ := rG_ref (by decide) g1
  obtain ⟨x2, rfl, b2, d2⟩ := aG_int g2
  dsimp only at b2 d2
  obtain ⟨x3, rfl, b3, d3⟩ := aG_int g3
  dsimp only at b3 d3
  obtain ⟨x4, rfl, b4, d4⟩ := aG_int g4
  dsimp only at b4 d4
  obtain ⟨x5, rfl, b5, d5⟩ := aG_int g5
  dsimp only at b5 d5
  obtain ⟨x6, rfl, b6, d6⟩ := aG_int g6
  dsimp only at b6 d6
  obtain ⟨m1, m2, m3, m4⟩ := hM0
  obtain ⟨M, hM⟩ := rMe_ex hH b0 d0
  obtain ⟨a0, c0, fs0, w0, e1, s0, t0, e4⟩ := m1 (0, 2, 1) (List.mem_of_getElem? (i := 0) rfl)
  obtain rfl : x0 = a0 := Sum.inl.inj (Option.some.inj (Sum.inr.inj (Sum.inr.inj (Option.some.inj (show some (rR x0) = some _ from e1)))))
  obtain rfl : rR x1 = w0 := Option.some.inj (show some (rR x1) = some w0 from e4)
  clear e1 e4
  obtain ⟨a, mc0, ty0, gc0, ic0, e1, sc0, jc0, e4, e5⟩ := m2 (1, ([(5, 1)], 0), 6) (List.mem_of_getElem? (i := 0) rfl)
  obtain rfl : x1 = a := Sum.inl.inj (Option.some.inj (Sum.inr.inj (Sum.inr.inj (Option.some.inj (show some (rR x1) = some _ from e1)))))
  obtain ⟨gc0, rfl⟩ : ∃ g, gc0 = .inl g := by
    rcases gc0 with g | g
    · exact ⟨g, rfl⟩
    · exact absurd (show some (rI x6) = some (.inr (.inl (g ic0))) from e5) (fun h => by cases h)
  have sc0 : σ x1 = .inl (ty0, mc0, .inl gc0) := sc0
  have ec0 : x6 = gc0 ic0 := Sum.inl.inj (Option.some.inj (show some (rI x6) = some _ from e5))
  have kc0 : (ic0 : Int) = (1 * x5.toInt + 0) + 0 := by
    obtain ⟨z, e6, e7⟩ := e4
    obtain rfl : (1 * x5.toInt + 0) = z := Option.some.inj (show some (1 * x5.toInt + 0) = some z from e6)
    exact e7
  clear e1 e4 e5
  have l0 : 0 ≤ (1 * x3.toInt + (-1 * x2.toInt + 0)) + -2 := by
    obtain ⟨z, e6, e7⟩ := m3 ([(3, 1), (2, -1)], -2) (List.mem_of_getElem? (i := 0) rfl)
    obtain rfl : (1 * x3.toInt + (-1 * x2.toInt + 0)) = z := Option.some.inj (show some (1 * x3.toInt + (-1 * x2.toInt + 0)) = some z from e6)
    exact e7
  have l1 : 0 ≤ (-1 * x3.toInt + (1 * x2.toInt + 0)) + 2 := by
    obtain ⟨z, e6, e7⟩ := m3 ([(3, -1), (2, 1)], 2) (List.mem_of_getElem? (i := 1) rfl)
    obtain rfl : (-1 * x3.toInt + (1 * x2.toInt + 0)) = z := Option.some.inj (show some (-1 * x3.toInt + (1 * x2.toInt + 0)) = some z from e6)
    exact e7
  have l2 : 0 ≤ (1 * x2.toInt + (1 * x3.toInt + (-2 * x4.toInt + 0))) + 0 := by
    obtain ⟨z, e6, e7⟩ := m3 ([(2, 1), (3, 1), (4, -2)], 0) (List.mem_of_getElem? (i := 2) rfl)
    obtain rfl : (1 * x2.toInt + (1 * x3.toInt + (-2 * x4.toInt + 0))) = z := Option.some.inj (show some (1 * x2.toInt + (1 * x3.toInt + (-2 * x4.toInt + 0))) = some z from e6)
    exact e7
  have l3 : 0 ≤ (-1 * x2.toInt + (-1 * x3.toInt + (2 * x4.toInt + 0))) + 1 := by
    obtain ⟨z, e6, e7⟩ := m3 ([(2, -1), (3, -1), (4, 2)], 1) (List.mem_of_getElem? (i := 3) rfl)
    obtain rfl : (-1 * x2.toInt + (-1 * x3.toInt + (2 * x4.toInt + 0))) = z := Option.some.inj (show some (-1 * x2.toInt + (-1 * x3.toInt + (2 * x4.toInt + 0))) = some z from e6)
    exact e7
  have l4 : 0 ≤ (1 * x5.toInt + (-1 * x2.toInt + 0)) + -3 := by
    obtain ⟨z, e6, e7⟩ := m3 ([(5, 1), (2, -1)], -3) (List.mem_of_getElem? (i := 4) rfl)
    obtain rfl : (1 * x5.toInt + (-1 * x2.toInt + 0)) = z := Option.some.inj (show some (1 * x5.toInt + (-1 * x2.toInt + 0)) = some z from e6)
    exact e7
  have l5 : 0 ≤ (-1 * x5.toInt + (1 * x2.toInt + 0)) + 3 := by
    obtain ⟨z, e6, e7⟩ := m3 ([(5, -1), (2, 1)], 3) (List.mem_of_getElem? (i := 5) rfl)
    obtain rfl : (-1 * x5.toInt + (1 * x2.toInt + 0)) = z := Option.some.inj (show some (-1 * x5.toInt + (1 * x2.toInt + 0)) = some z from e6)
    exact e7
  have y0 : M x5.toInt = x6.toInt := rMg_c hM s0 t0 sc0 (by omega) (by omega) (by omega) ec0
  have f0 : rB K n p 54 [rR x0, rI x2, rI x3] σ := by
    obtain ⟨w, e6, e7⟩ := m4 (867, [0, 2, 3]) (List.mem_of_getElem? (i := 0) rfl)
    obtain rfl : [rR x0, rI x2, rI x3] = w := Option.some.inj (show some [rR x0, rI x2, rI x3] = some w from e6)
    exact (rF_b (r := 867) (by decide) rfl).mp e7
  obtain ⟨M9, h9, f0⟩ := ro_54.mp f0
  obtain rfl := rMg_u hM h9
  clear h9
  clear m1 m2 m3 m4
  have q0 : rB K n p 55 [rR x0, rI x2, rI x3] (jup σ x1 (jsto (σ x1) x4.toNatClampNeg x6)) := ro_55.mpr ⟨_, rMg_up hM s0 t0 b4 d4, by
    refine ⟨f0.1, ?_⟩
    rw [show rOv x2.toInt x3.toInt = x4.toInt by unfold rOv; omega, show rCo x2.toInt x3.toInt = x5.toInt by unfold rCo; rw [if_pos (by omega)]; omega, ← f0.2, y0]⟩
  exact ⟨p, fun _ => rfl, ⟨(fun q h => by cases h), fun q h => (by cases h), (fun f h => by cases h), (aAllc ⟨_, rfl, rF_p (r := 883) (by decide) (by decide) q0⟩ (fun f h => by cases h))⟩, [], List.mem_cons_self, fun f h => (by cases h)⟩
theorem rw_rvK2u {K : Nat → Nat} {n : Nat} {JX : (Nat → jcell) → Prop} : aGho (rF K n) fa_T K n JX ag_rvK2u := by
  refine aGho_of ⟨rfl, rfl⟩ ?_
  intro p σ ρ hH hX hA hM0
  have hG := aAG_of hA.1 (fun i e v he hv => (hA.2 i e v he hv).1)
  clear hA
  obtain ⟨v0, v1, v2, v3, v4, v5, v6, rfl, g0, g1, g2, g3, g4, g5, g6⟩ := rA_7 hG
  clear hG
  obtain ⟨x0, rfl, b0, d0⟩ := rG_ref (by decide) g0
  obtain ⟨x1, rfl, b1, d1⟩ := rG_ref (by decide) g1
  obtain ⟨x2, rfl, b2, d2⟩ := aG_int g2
  dsimp only at b2 d2
  obtain ⟨x3, rfl, b3, d3⟩ := aG_int g3
  dsimp only at b3 d3
  obtain ⟨x4, rfl, b4, d4⟩ := aG_int g4
  dsimp only at b4 d4
  obtain ⟨x5, rfl, b5, d5⟩ := aG_int g5
  dsimp only at b5 d5
  obtain ⟨x6, rfl, b6, d6⟩ := aG_int g6
  dsimp only at b6 d6
  obtain ⟨m1, m2, m3, m4⟩ := hM0
  obtain ⟨M, hM⟩ := rMe_ex hH b0 d0
  obtain ⟨a0, c0, fs0, w0, e1, s0, t0, e4⟩ := m1 (0, 2, 1) (List.mem_of_getElem? (i := 0) rfl)
  obtain rfl : x0 = a0 := Sum.inl.inj (Option.some.inj (Sum.inr.inj (Sum.inr.inj (Option.some.inj (show some (rR x0) = some _ from e1)))))
  obtain rfl : rR x1 = w0 := Option.some.inj (show some (rR x1) = some w0 from e4)
  clear e1 e4
  have l0 : 0 ≤ (1 * x3.toInt + (-1 * x2.toInt + 0)) + -2 := by
    obtain ⟨z, e6, e7⟩ := m3 ([(3, 1), (2, -1)], -2) (List.mem_of_getElem? (i := 0) rfl)
    obtain rfl : (1 * x3.toInt + (-1 * x2.toInt + 0)) = z := Option.some.inj (show some (1 * x3.toInt + (-1 * x2.toInt + 0)) = some z from e6)
    exact e7
  have l1 : 0 ≤ (-1 * x3.toInt + (1 * x2.toInt + 0)) + 2 := by
    obtain ⟨z, e6, e7⟩ := m3 ([(3, -1), (2, 1)], 2) (List.mem_of_getElem? (i := 1) rfl)
    obtain rfl : (-1 * x3.toInt + (1 * x2.toInt + 0)) = z := Option.some.inj (show some (-1 * x3.toInt + (1 * x2.toInt + 0)) = some z from e6)
    exact e7
  have l2 : 0 ≤ (1 * x2.toInt + (1 * x3.toInt + (-2 * x4.toInt + 0))) + 0 := by
    obtain ⟨z, e6, e7⟩ := m3 ([(2, 1), (3, 1), (4, -2)], 0) (List.mem_of_getElem? (i := 2) rfl)
    obtain rfl : (1 * x2.toInt + (1 * x3.toInt + (-2 * x4.toInt + 0))) = z := Option.some.inj (show some (1 * x2.toInt + (1 * x3.toInt + (-2 * x4.toInt + 0))) = some z from e6)
    exact e7
  have l3 : 0 ≤ (-1 * x2.toInt + (-1 * x3.toInt + (2 * x4.toInt + 0))) + 1 := by
    obtain ⟨z, e6, e7⟩ := m3 ([(2, -1), (3, -1), (4, 2)], 1) (List.mem_of_getElem? (i := 3) rfl)
    obtain rfl : (-1 * x2.toInt + (-1 * x3.toInt + (2 * x4.toInt + 0))) = z := Option.some.inj (show some (-1 * x2.toInt + (-1 * x3.toInt + (2 * x4.toInt + 0))) = some z from e6)
    exact e7
  have l4 : 0 ≤ (1 * x5.toInt + (-1 * x2.toInt + 0)) + -3 := by
    obtain ⟨z, e6, e7⟩ := m3 ([(5, 1), (2, -1)], -3) (List.mem_of_getElem? (i := 4) rfl)
    obtain rfl : (1 * x5.toInt + (-1 * x2.toInt + 0)) = z := Option.some.inj (show some (1 * x5.toInt + (-1 * x2.toInt + 0)) = some z from e6)
    exact e7
  have l5 : 0 ≤ (-1 * x5.toInt + (1 * x2.toInt + 0)) + 3 := by
    obtain ⟨z, e6, e7⟩ := m3 ([(5, -1), (2, 1)], 3) (List.mem_of_getElem? (i := 5) rfl)
    obtain rfl : (-1 * x5.toInt + (1 * x2.toInt + 0)) = z := Option.some.inj (show some (-1 * x5.toInt + (1 * x2.toInt + 0)) = some z from e6)
    exact e7
  have f0 : rB K n p 55 [rR x0, rI x2, rI x3] σ := by
    obtain ⟨w, e6, e7⟩ := m4 (883, [0, 2, 3]) (List.mem_of_getElem? (i := 0) rfl)
    obtain rfl : [rR x0, rI x2, rI x3] = w := Option.some.inj (show some [rR x0, rI x2, rI x3] = some w from e6)
    exact (rF_b (r := 883) (by decide) rfl).mp e7
  obtain ⟨M9, h9, f0⟩ := ro_55.mp f0
  obtain rfl := rMg_u hM h9
  clear h9
  clear m1 m2 m3 m4
  have q0 : rB K n p 56 [rR x0, rI x2, rI x3] (jup σ x1 (jsto (σ x1) x5.toNatClampNeg x6)) := ro_56.mpr ⟨_, rMg_up hM s0 t0 b5 d5, by
    obtain ⟨e1, e2, e3⟩ := rFr_m (f := x2.toInt) (t := x3.toInt) (by omega) (by omega) (by omega) (by omega)
    refine ⟨f0.1, ?_⟩
    unfold rM4c
    rw [e1, e2, f0.2, show rOv x2.toInt x3.toInt = x4.toInt by unfold rOv; omega, show rCo x2.toInt x3.toInt = x5.toInt by unfold rCo; rw [if_pos (by omega)]; omega, show x6.toInt = 0 by omega]⟩
  exact ⟨p, fun _ => rfl, ⟨(fun q h => by cases h), fun q h => (by cases h), (fun f h => by cases h), (aAllc ⟨_, rfl, rF_p (r := 899) (by decide) (by decide) q0⟩ (fun f h => by cases h))⟩, [], List.mem_cons_self, fun f h => (by cases h)⟩
theorem rw_rvK3u {K : Nat → Nat} {n : Nat} {JX : (Nat → jcell) → Prop} : aGho (rF K n) fa_T K n JX ag_rvK3u := by
  refine aGho_of ⟨rfl, rfl⟩ ?_
  intro p σ ρ hH hX hA hM0
  have hG := aAG_of hA.1 (fun i e v he hv => (hA.2 i e v he hv).1)
  clear hA
  obtain ⟨v0, v1, v2, v3, v4, v5, v6, rfl, g0, g1, g2, g3, g4, g5, g6⟩ := rA_7 hG
  clear hG
  obtain ⟨x0, rfl, b0, d0⟩ := rG_ref (by decide) g0
  obtain ⟨x1, rfl, b1, d1⟩ := rG_ref (by decide) g1
  obtain ⟨x2, rfl, b2, d2⟩ := aG_int g2
  dsimp only at b2 d2
  obtain ⟨x3, rfl, b3, d3⟩ := aG_int g3
  dsimp only at b3 d3
  obtain ⟨x4, rfl, b4, d4⟩ := aG_int g4
  dsimp only at b4 d4
  obtain ⟨x5, rfl, b5, d5⟩ := aG_int g5
  dsimp only at b5 d5
  obtain ⟨x6, rfl, b6, d6⟩ := aG_int g6
  dsimp only at b6 d6
  obtain ⟨m1, m2, m3, m4⟩ := hM0
  obtain ⟨M, hM⟩ := rMe_ex hH b0 d0
  obtain ⟨a0, c0, fs0, w0, e1, s0, t0, e4⟩ := m1 (0, 2, 1) (List.mem_of_getElem? (i := 0) rfl)
  obtain rfl : x0 = a0 := Sum.inl.inj (Option.some.inj (Sum.inr.inj (Sum.inr.inj (Option.some.inj (show some (rR x0) = some _ from e1)))))
  obtain rfl : rR x1 = w0 := Option.some.inj (show some (rR x1) = some w0 from e4)
  clear e1 e4
  obtain ⟨a, mc0, ty0, gc0, ic0, e1, sc0, jc0, e4, e5⟩ := m2 (1, ([(4, 1)], 0), 6) (List.mem_of_getElem? (i := 0) rfl)
  obtain rfl : x1 = a := Sum.inl.inj (Option.some.inj (Sum.inr.inj (Sum.inr.inj (Option.some.inj (show some (rR x1) = some _ from e1)))))
  obtain ⟨gc0, rfl⟩ : ∃ g, gc0 = .inl g := by
    rcases gc0 with g | g
    · exact ⟨g, rfl⟩
    · exact absurd (show some (rI x6) = some (.inr (.inl (g ic0))) from e5) (fun h => by cases h)
  have sc0 : σ x1 = .inl (ty0, mc0, .inl gc0) := sc0
  have ec0 : x6 = gc0 ic0 := Sum.inl.inj (Option.some.inj (show some (rI x6) = some _ from e5))
  have kc0 : (ic0 : Int) = (1 * x4.toInt + 0) + 0 := by
    obtain ⟨z, e6, e7⟩ := e4
    obtain rfl : (1 * x4.toInt + 0) = z := Option.some.inj (show some (1 * x4.toInt + 0) = some z from e6)
    exact e7
  clear e1 e4 e5
  have l0 : 0 ≤ (1 * x3.toInt + (-1 * x2.toInt + 0)) + -2 := by
    obtain ⟨z, e6, e7⟩ := m3 ([(3, 1), (2, -1)], -2) (List.mem_of_getElem? (i := 0) rfl)
    obtain rfl : (1 * x3.toInt + (-1 * x2.toInt + 0)) = z := Option.some.inj (show some (1 * x3.toInt + (-1 * x2.toInt + 0)) = some z from e6)
    exact e7
  have l1 : 0 ≤ (-1 * x3.toInt + (1 * x2.toInt + 0)) + 2 := by
    obtain ⟨z, e6, e7⟩ := m3 ([(3, -1), (2, 1)], 2) (List.mem_of_getElem? (i := 1) rfl)
    obtain rfl : (-1 * x3.toInt + (1 * x2.toInt + 0)) = z := Option.some.inj (show some (-1 * x3.toInt + (1 * x2.toInt + 0)) = some z from e6)
    exact e7
  have l2 : 0 ≤ (1 * x2.toInt + (1 * x3.toInt + (-2 * x4.toInt + 0))) + 0 := by
    obtain ⟨z, e6, e7⟩ := m3 ([(2, 1), (3, 1), (4, -2)], 0) (List.mem_of_getElem? (i := 2) rfl)
    obtain rfl : (1 * x2.toInt + (1 * x3.toInt + (-2 * x4.toInt + 0))) = z := Option.some.inj (show some (1 * x2.toInt + (1 * x3.toInt + (-2 * x4.toInt + 0))) = some z from e6)
    exact e7
  have l3 : 0 ≤ (-1 * x2.toInt + (-1 * x3.toInt + (2 * x4.toInt + 0))) + 1 := by
    obtain ⟨z, e6, e7⟩ := m3 ([(2, -1), (3, -1), (4, 2)], 1) (List.mem_of_getElem? (i := 3) rfl)
    obtain rfl : (-1 * x2.toInt + (-1 * x3.toInt + (2 * x4.toInt + 0))) = z := Option.some.inj (show some (-1 * x2.toInt + (-1 * x3.toInt + (2 * x4.toInt + 0))) = some z from e6)
    exact e7
  have l4 : 0 ≤ (1 * x5.toInt + (-1 * x2.toInt + 0)) + -3 := by
    obtain ⟨z, e6, e7⟩ := m3 ([(5, 1), (2, -1)], -3) (List.mem_of_getElem? (i := 4) rfl)
    obtain rfl : (1 * x5.toInt + (-1 * x2.toInt + 0)) = z := Option.some.inj (show some (1 * x5.toInt + (-1 * x2.toInt + 0)) = some z from e6)
    exact e7
  have l5 : 0 ≤ (-1 * x5.toInt + (1 * x2.toInt + 0)) + 3 := by
    obtain ⟨z, e6, e7⟩ := m3 ([(5, -1), (2, 1)], 3) (List.mem_of_getElem? (i := 5) rfl)
    obtain rfl : (-1 * x5.toInt + (1 * x2.toInt + 0)) = z := Option.some.inj (show some (-1 * x5.toInt + (1 * x2.toInt + 0)) = some z from e6)
    exact e7
  have y0 : M x4.toInt = x6.toInt := rMg_c hM s0 t0 sc0 (by omega) (by omega) (by omega) ec0
  have f0 : rB K n p 62 [rR x0, rI x2, rI x3] σ := by
    obtain ⟨w, e6, e7⟩ := m4 (995, [0, 2, 3]) (List.mem_of_getElem? (i := 0) rfl)
    obtain rfl : [rR x0, rI x2, rI x3] = w := Option.some.inj (show some [rR x0, rI x2, rI x3] = some w from e6)
    exact (rF_b (r := 995) (by decide) rfl).mp e7
  obtain ⟨M9, h9, f0⟩ := ro_62.mp f0
  obtain rfl := rMg_u hM h9
  clear h9
  clear m1 m2 m3 m4
  have q0 : rB K n p 63 [rR x0, rI x2, rI x3] (jup σ x1 (jsto (σ x1) x5.toNatClampNeg x6)) := ro_63.mpr ⟨_, rMg_up hM s0 t0 b5 d5, by
    refine ⟨f0.1, f0.2.1, ?_⟩
    rw [show rOv x2.toInt x3.toInt = x4.toInt by unfold rOv; omega, show rCo x2.toInt x3.toInt = x5.toInt by unfold rCo; rw [if_pos (by omega)]; omega, ← f0.2.2, y0]⟩
  exact ⟨p, fun _ => rfl, ⟨(fun q h => by cases h), fun q h => (by cases h), (fun f h => by cases h), (aAllc ⟨_, rfl, rF_p (r := 1011) (by decide) (by decide) q0⟩ (fun f h => by cases h))⟩, [], List.mem_cons_self, fun f h => (by cases h)⟩
theorem rw_rvK4u {K : Nat → Nat} {n : Nat} {JX : (Nat → jcell) → Prop} : aGho (rF K n) fa_T K n JX ag_rvK4u := by
  refine aGho_of ⟨rfl, rfl⟩ ?_
  intro p σ ρ hH hX hA hM0
  have hG := aAG_of hA.1 (fun i e v he hv => (hA.2 i e v he hv).1)
  clear hA
  obtain ⟨v0, v1, v2, v3, v4, v5, v6, rfl, g0, g1, g2, g3, g4, g5, g6⟩ := rA_7 hG
  clear hG
  obtain ⟨x0, rfl, b0, d0⟩ := rG_ref (by decide) g0
  obtain ⟨x1, rfl, b1, d1⟩ := rG_ref (by decide) g1
  obtain ⟨x2, rfl, b2, d2⟩ := aG_int g2
  dsimp only at b2 d2
  obtain ⟨x3, rfl, b3, d3⟩ := aG_int g3
  dsimp only at b3 d3
  obtain ⟨x4, rfl, b4, d4⟩ := aG_int g4
  dsimp only at b4 d4
  obtain ⟨x5, rfl, b5, d5⟩ := aG_int g5
  dsimp only at b5 d5
  obtain ⟨x6, rfl, b6, d6⟩ := aG_int g6
  dsimp only at b6 d6
  obtain ⟨m1, m2, m3, m4⟩ := hM0
  obtain ⟨M, hM⟩ := rMe_ex hH b0 d0
  obtain ⟨a0, c0, fs0, w0, e1, s0, t0, e4⟩ := m1 (0, 2, 1) (List.mem_of_getElem? (i := 0) rfl)
  obtain rfl : x0 = a0 := Sum.inl.inj (Option.some.inj (Sum.inr.inj (Sum.inr.inj (Option.some.inj (show some (rR x0) = some _ from e1)))))
  obtain rfl : rR x1 = w0 := Option.some.inj (show some (rR x1) = some w0 from e4)
  clear e1 e4
  have l0 : 0 ≤ (1 * x3.toInt + (-1 * x2.toInt + 0)) + -2 := by
    obtain ⟨z, e6, e7⟩ := m3 ([(3, 1), (2, -1)], -2) (List.mem_of_getElem? (i := 0) rfl)
    obtain rfl : (1 * x3.toInt + (-1 * x2.toInt + 0)) = z := Option.some.inj (show some (1 * x3.toInt + (-1 * x2.toInt + 0)) = some z from e6)
    exact e7
  have l1 : 0 ≤ (-1 * x3.toInt + (1 * x2.toInt + 0)) + 2 := by
    obtain ⟨z, e6, e7⟩ := m3 ([(3, -1), (2, 1)], 2) (List.mem_of_getElem? (i := 1) rfl)
    obtain rfl : (-1 * x3.toInt + (1 * x2.toInt + 0)) = z := Option.some.inj (show some (-1 * x3.toInt + (1 * x2.toInt + 0)) = some z from e6)
    exact e7
  have l2 : 0 ≤ (1 * x2.toInt + (1 * x3.toInt + (-2 * x4.toInt + 0))) + 0 := by
    obtain ⟨z, e6, e7⟩ := m3 ([(2, 1), (3, 1), (4, -2)], 0) (List.mem_of_getElem? (i := 2) rfl)
    obtain rfl : (1 * x2.toInt + (1 * x3.toInt + (-2 * x4.toInt + 0))) = z := Option.some.inj (show some (1 * x2.toInt + (1 * x3.toInt + (-2 * x4.toInt + 0))) = some z from e6)
    exact e7
  have l3 : 0 ≤ (-1 * x2.toInt + (-1 * x3.toInt + (2 * x4.toInt + 0))) + 1 := by
    obtain ⟨z, e6, e7⟩ := m3 ([(2, -1), (3, -1), (4, 2)], 1) (List.mem_of_getElem? (i := 3) rfl)
    obtain rfl : (-1 * x2.toInt + (-1 * x3.toInt + (2 * x4.toInt + 0))) = z := Option.some.inj (show some (-1 * x2.toInt + (-1 * x3.toInt + (2 * x4.toInt + 0))) = some z from e6)
    exact e7
  have l4 : 0 ≤ (1 * x5.toInt + (-1 * x2.toInt + 0)) + -3 := by
    obtain ⟨z, e6, e7⟩ := m3 ([(5, 1), (2, -1)], -3) (List.mem_of_getElem? (i := 4) rfl)
    obtain rfl : (1 * x5.toInt + (-1 * x2.toInt + 0)) = z := Option.some.inj (show some (1 * x5.toInt + (-1 * x2.toInt + 0)) = some z from e6)
    exact e7
  have l5 : 0 ≤ (-1 * x5.toInt + (1 * x2.toInt + 0)) + 3 := by
    obtain ⟨z, e6, e7⟩ := m3 ([(5, -1), (2, 1)], 3) (List.mem_of_getElem? (i := 5) rfl)
    obtain rfl : (-1 * x5.toInt + (1 * x2.toInt + 0)) = z := Option.some.inj (show some (-1 * x5.toInt + (1 * x2.toInt + 0)) = some z from e6)
    exact e7
  have f0 : rB K n p 63 [rR x0, rI x2, rI x3] σ := by
    obtain ⟨w, e6, e7⟩ := m4 (1011, [0, 2, 3]) (List.mem_of_getElem? (i := 0) rfl)
    obtain rfl : [rR x0, rI x2, rI x3] = w := Option.some.inj (show some [rR x0, rI x2, rI x3] = some w from e6)
    exact (rF_b (r := 1011) (by decide) rfl).mp e7
  obtain ⟨M9, h9, f0⟩ := ro_63.mp f0
  obtain rfl := rMg_u hM h9
  clear h9
  clear m1 m2 m3 m4
  have q0 : rB K n p 57 [rR x0, rI x2, rI x3] (jup σ x1 (jsto (σ x1) x4.toNatClampNeg x6)) := ro_57.mpr ⟨_, rMg_up hM s0 t0 b4 d4, by
    obtain ⟨e1, e2, e3⟩ := rFr_m (f := x2.toInt) (t := x3.toInt) (by omega) (by omega) (by omega) (by omega)
    refine ⟨f0.1, f0.2.1, ?_⟩
    unfold rT0c
    rw [e1, e2, f0.2.2, show rOv x2.toInt x3.toInt = x4.toInt by unfold rOv; omega, show rCo x2.toInt x3.toInt = x5.toInt by unfold rCo; rw [if_pos (by omega)]; omega, show x6.toInt = 0 by omega]⟩
  exact ⟨p, fun _ => rfl, ⟨(fun q h => by cases h), fun q h => (by cases h), (fun f h => by cases h), (aAllc ⟨_, rfl, rF_p (r := 915) (by decide) (by decide) q0⟩ (fun f h => by cases h))⟩, [], List.mem_cons_self, fun f h => (by cases h)⟩
theorem rw_rvK1d {K : Nat → Nat} {n : Nat} {JX : (Nat → jcell) → Prop} : aGho (rF K n) fa_T K n JX ag_rvK1d := by
  refine aGho_of ⟨rfl, rfl⟩ ?_
  intro p σ ρ hH hX hA hM0
  have hG := aAG_of hA.1 (fun i e v he hv => (hA.2 i e v he hv).1)
  clear hA
  obtain ⟨v0, v1, v2, v3, v4, v5, v6, rfl, g0, g1, g2, g3, g4, g5, g6⟩ := rA_7 hG
  clear hG
  obtain ⟨x0, rfl, b0, d0⟩ := rG_ref (by decide) g0
  obtain ⟨x1, rfl, b1, d1⟩ := rG_ref (by decide) g1
  obtain ⟨x2, rfl, b2, d2⟩ := aG_int g2
  dsimp only at b2 d2
  obtain ⟨x3, rfl, b3, d3⟩ := aG_int g3
  dsimp only at b3 d3
  obtain ⟨x4, rfl, b4, d4⟩ := aG_int g4
  dsimp only at b4 d4
  obtain ⟨x5, rfl, b5, d5⟩ := aG_int g5
  dsimp only at b5 d5
  obtain ⟨x6, rfl, b6, d6⟩ := aG_int g6
  dsimp only at b6 d6
  obtain ⟨m1, m2, m3, m4⟩ := hM0
  obtain ⟨M, hM⟩ := rMe_ex hH b0 d0
  obtain ⟨a0, c0, fs0, w0, e1, s0, t0, e4⟩ := m1 (0, 2, 1) (List.mem_of_getElem? (i := 0) rfl)
  obtain rfl : x0 = a0 := Sum.inl.inj (Option.some.inj (Sum.inr.inj (Sum.inr.inj (Option.some.inj (show some (rR x0) = some _ from e1)))))
  obtain rfl : rR x1 = w0 := Option.some.inj (show some (rR x1) = some w0 from e4)
  clear e1 e4
  obtain ⟨a, mc0, ty0, gc0, ic0, e1, sc0, jc0, e4, e5⟩ := m2 (1, ([(5, 1)], 0), 6) (List.mem_of_getElem? (i := 0) rfl)
  obtain rfl : x1 = a := Sum.inl.inj (Option.some.inj (Sum.inr.inj (Sum.inr.inj (Option.some.inj (show some (rR x1) = some _ from e1)))))
  obtain ⟨gc0, rfl⟩ : ∃ g, gc0 = .inl g := by
    rcases gc0 with g | g
    · exact ⟨g, rfl⟩
    · exact absurd (show some (rI x6) = some (.inr (.inl (g ic0))) from e5) (fun h => by cases h)
  have sc0 : σ x1 = .inl (ty0, mc0, .inl gc0) := sc0
  have ec0 : x6 = gc0 ic0 := Sum.inl.inj (Option.some.inj (show some (rI x6) = some _ from e5))
  have kc0 : (ic0 : Int) = (1 * x5.toInt + 0) + 0 := by
    obtain ⟨z, e6, e7⟩ := e4
    obtain rfl : (1 * x5.toInt + 0) = z := Option.some.inj (show some (1 * x5.toInt + 0) = some z from e6)
    exact e7
  clear e1 e4 e5
  have l0 : 0 ≤ (1 * x3.toInt + (-1 * x2.toInt + 0)) + 2 := by
    obtain ⟨z, e6, e7⟩ := m3 ([(3, 1), (2, -1)], 2) (List.mem_of_getElem? (i := 0) rfl)
    obtain rfl : (1 * x3.toInt + (-1 * x2.toInt + 0)) = z := Option.some.inj (show some (1 * x3.toInt + (-1 * x2.toInt + 0)) = some z from e6)
    exact e7
  have l1 : 0 ≤ (-1 * x3.toInt + (1 * x2.toInt + 0)) + -2 := by
    obtain ⟨z, e6, e7⟩ := m3 ([(3, -1), (2, 1)], -2) (List.mem_of_getElem? (i := 1) rfl)
    obtain rfl : (-1 * x3.toInt + (1 * x2.toInt + 0)) = z := Option.some.inj (show some (-1 * x3.toInt + (1 * x2.toInt + 0)) = some z from e6)
    exact e7
  have l2 : 0 ≤ (1 * x2.toInt + (1 * x3.toInt + (-2 * x4.toInt + 0))) + 0 := by
    obtain ⟨z, e6, e7⟩ := m3 ([(2, 1), (3, 1), (4, -2)], 0) (List.mem_of_getElem? (i := 2) rfl)
    obtain rfl : (1 * x2.toInt + (1 * x3.toInt + (-2 * x4.toInt + 0))) = z := Option.some.inj (show some (1 * x2.toInt + (1 * x3.toInt + (-2 * x4.toInt + 0))) = some z from e6)
    exact e7
  have l3 : 0 ≤ (-1 * x2.toInt + (-1 * x3.toInt + (2 * x4.toInt + 0))) + 1 := by
    obtain ⟨z, e6, e7⟩ := m3 ([(2, -1), (3, -1), (4, 2)], 1) (List.mem_of_getElem? (i := 3) rfl)
    obtain rfl : (-1 * x2.toInt + (-1 * x3.toInt + (2 * x4.toInt + 0))) = z := Option.some.inj (show some (-1 * x2.toInt + (-1 * x3.toInt + (2 * x4.toInt + 0))) = some z from e6)
    exact e7
  have l4 : 0 ≤ (1 * x5.toInt + (-1 * x2.toInt + 0)) + 4 := by
    obtain ⟨z, e6, e7⟩ := m3 ([(5, 1), (2, -1)], 4) (List.mem_of_getElem? (i := 4) rfl)
    obtain rfl : (1 * x5.toInt + (-1 * x2.toInt + 0)) = z := Option.some.inj (show some (1 * x5.toInt + (-1 * x2.toInt + 0)) = some z from e6)
    exact e7
  have l5 : 0 ≤ (-1 * x5.toInt + (1 * x2.toInt + 0)) + -4 := by
    obtain ⟨z, e6, e7⟩ := m3 ([(5, -1), (2, 1)], -4) (List.mem_of_getElem? (i := 5) rfl)
    obtain rfl : (-1 * x5.toInt + (1 * x2.toInt + 0)) = z := Option.some.inj (show some (-1 * x5.toInt + (1 * x2.toInt + 0)) = some z from e6)
    exact e7
  have y0 : M x5.toInt = x6.toInt := rMg_c hM s0 t0 sc0 (by omega) (by omega) (by omega) ec0
  have f0 : rB K n p 54 [rR x0, rI x2, rI x3] σ := by
    obtain ⟨w, e6, e7⟩ := m4 (867, [0, 2, 3]) (List.mem_of_getElem? (i := 0) rfl)
    obtain rfl : [rR x0, rI x2, rI x3] = w := Option.some.inj (show some [rR x0, rI x2, rI x3] = some w from e6)
    exact (rF_b (r := 867) (by decide) rfl).mp e7
  obtain ⟨M9, h9, f0⟩ := ro_54.mp f0
  obtain rfl := rMg_u hM h9
  clear h9
  clear m1 m2 m3 m4
  have q0 : rB K n p 55 [rR x0, rI x2, rI x3] (jup σ x1 (jsto (σ x1) x4.toNatClampNeg x6)) := ro_55.mpr ⟨_, rMg_up hM s0 t0 b4 d4, by
    refine ⟨f0.1, ?_⟩
    rw [show rOv x2.toInt x3.toInt = x4.toInt by unfold rOv; omega, show rCo x2.toInt x3.toInt = x5.toInt by unfold rCo; rw [if_neg (by omega)]; omega, ← f0.2, y0]⟩
  exact ⟨p, fun _ => rfl, ⟨(fun q h => by cases h), fun q h => (by cases h), (fun f h => by cases h), (aAllc ⟨_, rfl, rF_p (r := 883) (by decide) (by decide) q0⟩ (fun f h => by cases h))⟩, [], List.mem_cons_self, fun f h => (by cases h)⟩
theorem rw_rvK2d {K : Nat → Nat} {n : Nat} {JX : (Nat → jcell) → Prop} : aGho (rF K n) fa_T K n JX ag_rvK2d := by
  refine aGho_of ⟨rfl, rfl⟩ ?_
  intro p σ ρ hH hX hA hM0
  have hG := aAG_of hA.1 (fun i e v he hv => (hA.2 i e v he hv).1)
  clear hA
  obtain ⟨v0, v1, v2, v3, v4, v5, v6, rfl, g0, g1, g2, g3, g4, g5, g6⟩ := rA_7 hG
  clear hG
  obtain ⟨x0, rfl, b0, d0⟩ := rG_ref (by decide) g0
  obtain ⟨x1, rfl, b1, d1⟩ := rG_ref (by decide) g1
  obtain ⟨x2, rfl, b2, d2⟩ := aG_int g2
  dsimp only at b2 d2
  obtain ⟨x3, rfl, b3, d3⟩ := aG_int g3
  dsimp only at b3 d3
  obtain ⟨x4, rfl, b4, d4⟩ := aG_int g4
  dsimp only at b4 d4
  obtain ⟨x5, rfl, b5, d5⟩ := aG_int g5
  dsimp only at b5 d5
  obtain ⟨x6, rfl, b6, d6⟩ := aG_int g6
  dsimp only at b6 d6
  obtain ⟨m1, m2, m3, m4⟩ := hM0
  obtain ⟨M, hM⟩ := rMe_ex hH b0 d0
  obtain ⟨a0, c0, fs0, w0, e1, s0, t0, e4⟩ := m1 (0, 2, 1) (List.mem_of_getElem? (i := 0) rfl)
  obtain rfl : x0 = a0 := Sum.inl.inj (Option.some.inj (Sum.inr.inj (Sum.inr.inj (Option.some.inj (show some (rR x0) = some _ from e1)))))
  obtain rfl : rR x1 = w0 := Option.some.inj (show some (rR x1) = some w0 from e4)
  clear e1 e4
  have l0 : 0 ≤ (1 * x3.toInt + (-1 * x2.toInt + 0)) + 2 := by
    obtain ⟨z, e6, e7⟩ := m3 ([(3, 1), (2, -1)], 2) (List.mem_of_getElem? (i := 0) rfl)
    obtain rfl : (1 * x3.toInt + (-1 * x2.toInt + 0)) = z := Option.some.inj (show some (1 * x3.toInt + (-1 * x2.toInt + 0)) = some z from e6)
    exact e7
  have l1 : 0 ≤ (-1 * x3.toInt + (1 * x2.toInt + 0)) + -2 := by
    obtain ⟨z, e6, e7⟩ := m3 ([(3, -1), (2, 1)], -2) (List.mem_of_getElem? (i := 1) rfl)
    obtain rfl : (-1 * x3.toInt + (1 * x2.toInt + 0)) = z := Option.some.inj (show some (-1 * x3.toInt + (1 * x2.toInt + 0)) = some z from e6)
    exact e7
  have l2 : 0 ≤ (1 * x2.toInt + (1 * x3.toInt + (-2 * x4.toInt + 0))) + 0 := by
    obtain ⟨z, e6, e7⟩ := m3 ([(2, 1), (3, 1), (4, -2)], 0) (List.mem_of_getElem? (i := 2) rfl)
    obtain rfl : (1 * x2.toInt + (1 * x3.toInt + (-2 * x4.toInt + 0))) = z := Option.some.inj (show some (1 * x2.toInt + (1 * x3.toInt + (-2 * x4.toInt + 0))) = some z from e6)
    exact e7
  have l3 : 0 ≤ (-1 * x2.toInt + (-1 * x3.toInt + (2 * x4.toInt + 0))) + 1 := by
    obtain ⟨z, e6, e7⟩ := m3 ([(2, -1), (3, -1), (4, 2)], 1) (List.mem_of_getElem? (i := 3) rfl)
    obtain rfl : (-1 * x2.toInt + (-1 * x3.toInt + (2 * x4.toInt + 0))) = z := Option.some.inj (show some (-1 * x2.toInt + (-1 * x3.toInt + (2 * x4.toInt + 0))) = some z from e6)
    exact e7
  have l4 : 0 ≤ (1 * x5.toInt + (-1 * x2.toInt + 0)) + 4 := by
    obtain ⟨z, e6, e7⟩ := m3 ([(5, 1), (2, -1)], 4) (List.mem_of_getElem? (i := 4) rfl)
    obtain rfl : (1 * x5.toInt + (-1 * x2.toInt + 0)) = z := Option.some.inj (show some (1 * x5.toInt + (-1 * x2.toInt + 0)) = some z from e6)
    exact e7
  have l5 : 0 ≤ (-1 * x5.toInt + (1 * x2.toInt + 0)) + -4 := by
    obtain ⟨z, e6, e7⟩ := m3 ([(5, -1), (2, 1)], -4) (List.mem_of_getElem? (i := 5) rfl)
    obtain rfl : (-1 * x5.toInt + (1 * x2.toInt + 0)) = z := Option.some.inj (show some (-1 * x5.toInt + (1 * x2.toInt + 0)) = some z from e6)
    exact e7
  have f0 : rB K n p 55 [rR x0, rI x2, rI x3] σ := by
    obtain ⟨w, e6, e7⟩ := m4 (883, [0, 2, 3]) (List.mem_of_getElem? (i := 0) rfl)
    obtain rfl : [rR x0, rI x2, rI x3] = w := Option.some.inj (show some [rR x0, rI x2, rI x3] = some w from e6)
    exact (rF_b (r := 883) (by decide) rfl).mp e7
  obtain ⟨M9, h9, f0⟩ := ro_55.mp f0
  obtain rfl := rMg_u hM h9
  clear h9
  clear m1 m2 m3 m4
  have q0 : rB K n p 56 [rR x0, rI x2, rI x3] (jup σ x1 (jsto (σ x1) x5.toNatClampNeg x6)) := ro_56.mpr ⟨_, rMg_up hM s0 t0 b5 d5, by
    obtain ⟨e1, e2, e3⟩ := rFr_m (f := x2.toInt) (t := x3.toInt) (by omega) (by omega) (by omega) (by omega)
    refine ⟨f0.1, ?_⟩
    unfold rM4c
    rw [e1, e2, f0.2, show rOv x2.toInt x3.toInt = x4.toInt by unfold rOv; omega, show rCo x2.toInt x3.toInt = x5.toInt by unfold rCo; rw [if_neg (by omega)]; omega, show x6.toInt = 0 by omega]⟩
  exact ⟨p, fun _ => rfl, ⟨(fun q h => by cases h), fun q h => (by cases h), (fun f h => by cases h), (aAllc ⟨_, rfl, rF_p (r := 899) (by decide) (by decide) q0⟩ (fun f h => by cases h))⟩, [], List.mem_cons_self, fun f h => (by cases h)⟩
theorem rw_rvK3d {K : Nat → Nat} {n : Nat} {JX : (Nat → jcell) → Prop} : aGho (rF K n) fa_T K n JX ag_rvK3d := by
  refine aGho_of ⟨rfl, rfl⟩ ?_
  intro p σ ρ hH hX hA hM0
  have hG := aAG_of hA.1 (fun i e v he hv => (hA.2 i e v he hv).1)
  clear hA
  obtain ⟨v0, v1, v2, v3, v4, v5, v6, rfl, g0, g1, g2, g3, g4, g5, g6⟩ := rA_7 hG
  clear hG
  obtain ⟨x0, rfl, b0, d0⟩ := rG_ref (by decide) g0
  obtain ⟨x1, rfl, b1, d1⟩ := rG_ref (by decide) g1
  obtain ⟨x2, rfl, b2, d2⟩ := aG_int g2
  dsimp only at b2 d2
  obtain ⟨x3, rfl, b3, d3⟩ := aG_int g3
  dsimp only at b3 d3
  obtain ⟨x4, rfl, b4, d4⟩ := aG_int g4
  dsimp only at b4 d4
  obtain ⟨x5, rfl, b5, d5⟩ := aG_int g5
  dsimp only at b5 d5
  obtain ⟨x6, rfl, b6, d6⟩ := aG_int g6
  dsimp only at b6 d6
  obtain ⟨m1, m2, m3, m4⟩ := hM0
  obtain ⟨M, hM⟩ := rMe_ex hH b0 d0
  obtain ⟨a0, c0, fs0, w0, e1, s0, t0, e4⟩ := m1 (0, 2, 1) (List.mem_of_getElem? (i := 0) rfl)
  obtain rfl : x0 = a0 := Sum.inl.inj (Option.some.inj (Sum.inr.inj (Sum.inr.inj (Option.some.inj (show some (rR x0) = some _ from e1)))))
  obtain rfl : rR x1 = w0 := Option.some.inj (show some (rR x1) = some w0 from e4)
  clear e1 e4
  obtain ⟨a, mc0, ty0, gc0, ic0, e1, sc0, jc0, e4, e5⟩ := m2 (1, ([(4, 1)], 0), 6) (List.mem_of_getElem? (i := 0) rfl)
  obtain rfl : x1 = a := Sum.inl.inj (Option.some.inj (Sum.inr.inj (Sum.inr.inj (Option.some.inj (show some (rR x1) = some _ from e1)))))
  obtain ⟨gc0, rfl⟩ : ∃ g, gc0 = .inl g := by
    rcases gc0 with g | g
    · exact ⟨g, rfl⟩
    · exact absurd (show some (rI x6) = some (.inr (.inl (g ic0))) from e5) (fun h => by cases h)
  have sc0 : σ x1 = .inl (ty0, mc0, .inl gc0) := sc0
  have ec0 : x6 = gc0 ic0 := Sum.inl.inj (Option.some.inj (show some (rI x6) = some _ from e5))
  have kc0 : (ic0 : Int) = (1 * x4.toInt + 0) + 0 := by
    obtain ⟨z, e6, e7⟩ := e4
    obtain rfl : (1 * x4.toInt + 0) = z := Option.some.inj (show some (1 * x4.toInt + 0) = some z from e6)
    exact e7
  clear e1 e4 e5
  have l0 : 0 ≤ (1 * x3.toInt + (-1 * x2.toInt + 0)) + 2 := by
    obtain ⟨z, e6, e7⟩ := m3 ([(3, 1), (2, -1)], 2) (List.mem_of_getElem? (i := 0) rfl)
    obtain rfl : (1 * x3.toInt + (-1 * x2.toInt + 0)) = z := Option.some.inj (show some (1 * x3.toInt + (-1 * x2.toInt + 0)) = some z from e6)
    exact e7
  have l1 : 0 ≤ (-1 * x3.toInt + (1 * x2.toInt + 0)) + -2 := by
    obtain ⟨z, e6, e7⟩ := m3 ([(3, -1), (2, 1)], -2) (List.mem_of_getElem? (i := 1) rfl)
    obtain rfl : (-1 * x3.toInt + (1 * x2.toInt + 0)) = z := Option.some.inj (show some (-1 * x3.toInt + (1 * x2.toInt + 0)) = some z from e6)
    exact e7
  have l2 : 0 ≤ (1 * x2.toInt + (1 * x3.toInt + (-2 * x4.toInt + 0))) + 0 := by
    obtain ⟨z, e6, e7⟩ := m3 ([(2, 1), (3, 1), (4, -2)], 0) (List.mem_of_getElem? (i := 2) rfl)
    obtain rfl : (1 * x2.toInt + (1 * x3.toInt + (-2 * x4.toInt + 0))) = z := Option.some.inj (show some (1 * x2.toInt + (1 * x3.toInt + (-2 * x4.toInt + 0))) = some z from e6)
    exact e7
  have l3 : 0 ≤ (-1 * x2.toInt + (-1 * x3.toInt + (2 * x4.toInt + 0))) + 1 := by
    obtain ⟨z, e6, e7⟩ := m3 ([(2, -1), (3, -1), (4, 2)], 1) (List.mem_of_getElem? (i := 3) rfl)
    obtain rfl : (-1 * x2.toInt + (-1 * x3.toInt + (2 * x4.toInt + 0))) = z := Option.some.inj (show some (-1 * x2.toInt + (-1 * x3.toInt + (2 * x4.toInt + 0))) = some z from e6)
    exact e7
  have l4 : 0 ≤ (1 * x5.toInt + (-1 * x2.toInt + 0)) + 4 := by
    obtain ⟨z, e6, e7⟩ := m3 ([(5, 1), (2, -1)], 4) (List.mem_of_getElem? (i := 4) rfl)
    obtain rfl : (1 * x5.toInt + (-1 * x2.toInt + 0)) = z := Option.some.inj (show some (1 * x5.toInt + (-1 * x2.toInt + 0)) = some z from e6)
    exact e7
  have l5 : 0 ≤ (-1 * x5.toInt + (1 * x2.toInt + 0)) + -4 := by
    obtain ⟨z, e6, e7⟩ := m3 ([(5, -1), (2, 1)], -4) (List.mem_of_getElem? (i := 5) rfl)
    obtain rfl : (-1 * x5.toInt + (1 * x2.toInt + 0)) = z := Option.some.inj (show some (-1 * x5.toInt + (1 * x2.toInt + 0)) = some z from e6)
    exact e7
  have y0 : M x4.toInt = x6.toInt := rMg_c hM s0 t0 sc0 (by omega) (by omega) (by omega) ec0
  have f0 : rB K n p 62 [rR x0, rI x2, rI x3] σ := by
    obtain ⟨w, e6, e7⟩ := m4 (995, [0, 2, 3]) (List.mem_of_getElem? (i := 0) rfl)
    obtain rfl : [rR x0, rI x2, rI x3] = w := Option.some.inj (show some [rR x0, rI x2, rI x3] = some w from e6)
    exact (rF_b (r := 995) (by decide) rfl).mp e7
  obtain ⟨M9, h9, f0⟩ := ro_62.mp f0
  obtain rfl := rMg_u hM h9
  clear h9
  clear m1 m2 m3 m4
  have q0 : rB K n p 63 [rR x0, rI x2, rI x3] (jup σ x1 (jsto (σ x1) x5.toNatClampNeg x6)) := ro_63.mpr ⟨_, rMg_up hM s0 t0 b5 d5, by
    refine ⟨f0.1, f0.2.1, ?_⟩
    rw [show rOv x2.toInt x3.toInt = x4.toInt by unfold rOv; omega, show rCo x2.toInt x3.toInt = x5.toInt by unfold rCo; rw [if_neg (by omega)]; omega, ← f0.2.2, y0]⟩
  exact ⟨p, fun _ => rfl, ⟨(fun q h => by cases h), fun q h => (by cases h), (fun f h => by cases h), (aAllc ⟨_, rfl, rF_p (r := 1011) (by decide) (by decide) q0⟩ (fun f h => by cases h))⟩, [], List.mem_cons_self, fun f h => (by cases h)⟩
theorem rw_rvK4d {K : Nat → Nat} {n : Nat} {JX : (Nat → jcell) → Prop} : aGho (rF K n) fa_T K n JX ag_rvK4d := by
  refine aGho_of ⟨rfl, rfl⟩ ?_
  intro p σ ρ hH hX hA hM0
  have hG := aAG_of hA.1 (fun i e v he hv => (hA.2 i e v he hv).1)
  clear hA
  obtain ⟨v0, v1, v2, v3, v4, v5, v6, rfl, g0, g1, g2, g3, g4, g5, g6⟩ := rA_7 hG
  clear hG
  obtain ⟨x0, rfl, b0, d0⟩ := rG_ref (by decide) g0
  obtain ⟨x1, rfl, b1, d1⟩ := rG_ref (by decide) g1
  obtain ⟨x2, rfl, b2, d2⟩ := aG_int g2
  dsimp only at b2 d2
  obtain ⟨x3, rfl, b3, d3⟩ := aG_int g3
  dsimp only at b3 d3
  obtain ⟨x4, rfl, b4, d4⟩ := aG_int g4
  dsimp only at b4 d4
  obtain ⟨x5, rfl, b5, d5⟩ := aG_int g5
  dsimp only at b5 d5
  obtain ⟨x6, rfl, b6, d6⟩ := aG_int g6
  dsimp only at b6 d6
  obtain ⟨m1, m2, m3, m4⟩ := hM0
  obtain ⟨M, hM⟩ := rMe_ex hH b0 d0
  obtain ⟨a0, c0, fs0, w0, e1, s0, t0, e4⟩ := m1 (0, 2, 1) (List.mem_of_getElem? (i := 0) rfl)
  obtain rfl : x0 = a0 := Sum.inl.inj (Option.some.inj (Sum.inr.inj (Sum.inr.inj (Option.some.inj (show some (rR x0) = some _ from e1)))))
  obtain rfl : rR x1 = w0 := Option.some.inj (show some (rR x1) = some w0 from e4)
  clear e1 e4
  have l0 : 0 ≤ (1 * x3.toInt + (-1 * x2.toInt + 0)) + 2 := by
    obtain ⟨z, e6, e7⟩ := m3 ([(3, 1), (2, -1)], 2) (List.mem_of_getElem? (i := 0) rfl)
    obtain rfl : (1 * x3.toInt + (-1 * x2.toInt + 0)) = z := Option.some.inj (show some (1 * x3.toInt + (-1 * x2.toInt + 0)) = some z from e6)
    exact e7
  have l1 : 0 ≤ (-1 * x3.toInt + (1 * x2.toInt + 0)) + -2 := by
    obtain ⟨z, e6, e7⟩ := m3 ([(3, -1), (2, 1)], -2) (List.mem_of_getElem? (i := 1) rfl)
    obtain rfl : (-1 * x3.toInt + (1 * x2.toInt + 0)) = z := Option.some.inj (show some (-1 * x3.toInt + (1 * x2.toInt + 0)) = some z from e6)
    exact e7
  have l2 : 0 ≤ (1 * x2.toInt + (1 * x3.toInt + (-2 * x4.toInt + 0))) + 0 := by
    obtain ⟨z, e6, e7⟩ := m3 ([(2, 1), (3, 1), (4, -2)], 0) (List.mem_of_getElem? (i := 2) rfl)
    obtain rfl : (1 * x2.toInt + (1 * x3.toInt + (-2 * x4.toInt + 0))) = z := Option.some.inj (show some (1 * x2.toInt + (1 * x3.toInt + (-2 * x4.toInt + 0))) = some z from e6)
    exact e7
  have l3 : 0 ≤ (-1 * x2.toInt + (-1 * x3.toInt + (2 * x4.toInt + 0))) + 1 := by
    obtain ⟨z, e6, e7⟩ := m3 ([(2, -1), (3, -1), (4, 2)], 1) (List.mem_of_getElem? (i := 3) rfl)
    obtain rfl : (-1 * x2.toInt + (-1 * x3.toInt + (2 * x4.toInt + 0))) = z := Option.some.inj (show some (-1 * x2.toInt + (-1 * x3.toInt + (2 * x4.toInt + 0))) = some z from e6)
    exact e7
  have l4 : 0 ≤ (1 * x5.toInt + (-1 * x2.toInt + 0)) + 4 := by
    obtain ⟨z, e6, e7⟩ := m3 ([(5, 1), (2, -1)], 4) (List.mem_of_getElem? (i := 4) rfl)
    obtain rfl : (1 * x5.toInt + (-1 * x2.toInt + 0)) = z := Option.some.inj (show some (1 * x5.toInt + (-1 * x2.toInt + 0)) = some z from e6)
    exact e7
  have l5 : 0 ≤ (-1 * x5.toInt + (1 * x2.toInt + 0)) + -4 := by
    obtain ⟨z, e6, e7⟩ := m3 ([(5, -1), (2, 1)], -4) (List.mem_of_getElem? (i := 5) rfl)
    obtain rfl : (-1 * x5.toInt + (1 * x2.toInt + 0)) = z := Option.some.inj (show some (-1 * x5.toInt + (1 * x2.toInt + 0)) = some z from e6)
    exact e7
  have f0 : rB K n p 63 [rR x0, rI x2, rI x3] σ := by
    obtain ⟨w, e6, e7⟩ := m4 (1011, [0, 2, 3]) (List.mem_of_getElem? (i := 0) rfl)
    obtain rfl : [rR x0, rI x2, rI x3] = w := Option.some.inj (show some [rR x0, rI x2, rI x3] = some w from e6)
    exact (rF_b (r := 1011) (by decide) rfl).mp e7
  obtain ⟨M9, h9, f0⟩ := ro_63.mp f0
  obtain rfl := rMg_u hM h9
  clear h9
  clear m1 m2 m3 m4
  have q0 : rB K n p 57 [rR x0, rI x2, rI x3] (jup σ x1 (jsto (σ x1) x4.toNatClampNeg x6)) := ro_57.mpr ⟨_, rMg_up hM s0 t0 b4 d4, by
    obtain ⟨e1, e2, e3⟩ := rFr_m (f := x2.toInt) (t := x3.toInt) (by omega) (by omega) (by omega) (by omega)
    refine ⟨f0.1, f0.2.1, ?_⟩
    unfold rT0c
    rw [e1, e2, f0.2.2, show rOv x2.toInt x3.toInt = x4.toInt by unfold rOv; omega, show rCo x2.toInt x3.toInt = x5.toInt by unfold rCo; rw [if_neg (by omega)]; omega, show x6.toInt = 0 by omega]⟩
  exact ⟨p, fun _ => rfl, ⟨(fun q h => by cases h), fun q h => (by cases h), (fun f h => by cases h), (aAllc ⟨_, rfl, rF_p (r := 915) (by decide) (by decide) q0⟩ (fun f h => by cases h))⟩, [], List.mem_cons_self, fun f h => (by cases h)⟩
theorem rw_rvCAq {K : Nat → Nat} {n : Nat} {JX : (Nat → jcell) → Prop} : aGho (rF K n) fa_T K n JX ag_rvCAq := by
  refine aGho_of ⟨rfl, rfl⟩ ?_
  intro p σ ρ hH hX hA hM0
  have hG := aAG_of hA.1 (fun i e v he hv => (hA.2 i e v he hv).1)
  clear hA
  obtain ⟨v0, v1, rfl, g0, g1⟩ := rA_2 hG
  clear hG
  obtain ⟨x0, rfl, b0, d0⟩ := aG_int g0
  dsimp only at b0 d0
  obtain ⟨x1, rfl, b1, d1⟩ := aG_int g1
  dsimp only at b1 d1
  obtain ⟨m1, m2, m3, m4⟩ := hM0
  have f0 : rB K n p 169 [rI x0, rI x1] σ := by
    obtain ⟨w, e6, e7⟩ := m4 (2706, [0, 1]) (List.mem_of_getElem? (i := 0) rfl)
    obtain rfl : [rI x0, rI x1] = w := Option.some.inj (show some [rI x0, rI x1] = some w from e6)
    exact (rF_b (r := 2706) (by decide) rfl).mp e7
  have f0 := ro_169.mp f0
  clear m1 m2 m3 m4
  have hd : (0 ≤ (1 * x1.toInt + (-1 * x0.toInt + 0)) + -2 ∧ 0 ≤ (-1 * x1.toInt + (1 * x0.toInt + 0)) + 2 ∧ 0 ≤ (1 * x0.toInt + 0) + -4 ∧ 0 ≤ (-1 * x0.toInt + 0) + 60) ∨ (0 ≤ (1 * x1.toInt + (-1 * x0.toInt + 0)) + 2 ∧ 0 ≤ (-1 * x1.toInt + (1 * x0.toInt + 0)) + -2 ∧ 0 ≤ (1 * x0.toInt + 0) + -4 ∧ 0 ≤ (-1 * x0.toInt + 0) + 60) := by
    omega
  rcases hd with ⟨w0, w1, w2, w3⟩ | ⟨w0, w1, w2, w3⟩
  · exact ⟨p, fun _ => rfl, ⟨(fun q h => by cases h), fun q h => (by cases h), (fun f h => by cases h), (fun f h => by cases h)⟩, _, List.mem_of_getElem? (i := 0) rfl, (aAllc ⟨_, rfl, w0⟩ (aAllc ⟨_, rfl, w1⟩ (aAllc ⟨_, rfl, w2⟩ (aAllc ⟨_, rfl, w3⟩ (fun f h => by cases h)))))⟩
  · exact ⟨p, fun _ => rfl, ⟨(fun q h => by cases h), fun q h => (by cases h), (fun f h => by cases h), (fun f h => by cases h)⟩, _, List.mem_of_getElem? (i := 1) rfl, (aAllc ⟨_, rfl, w0⟩ (aAllc ⟨_, rfl, w1⟩ (aAllc ⟨_, rfl, w2⟩ (aAllc ⟨_, rfl, w3⟩ (fun f h => by cases h)))))⟩
theorem rw_rvDM {K : Nat → Nat} {n : Nat} {JX : (Nat → jcell) → Prop} : aGho (rF K n) fa_T K n JX ag_rvDM := by
  refine aGho_of ⟨rfl, rfl⟩ ?_
  intro p σ ρ hH hX hA hM0
  have hG := aAG_of hA.1 (fun i e v he hv => (hA.2 i e v he hv).1)
  clear hA
  obtain ⟨v0, v1, v2, v3, v4, v5, rfl, g0, g1, g2, g3, g4, g5⟩ := rA_6 hG
  clear hG
  obtain ⟨x0, rfl, b0, d0⟩ := aG_int g0
  dsimp only at b0 d0
  obtain ⟨x1, rfl, b1, d1⟩ := aG_int g1
  dsimp only at b1 d1
  obtain ⟨x2, rfl, b2, d2⟩ := aG_int g2
  dsimp only at b2 d2
  obtain ⟨x3, rfl, b3, d3⟩ := aG_int g3
  dsimp only at b3 d3
  obtain ⟨x4, rfl, b4, d4⟩ := aG_int g4
  dsimp only at b4 d4
  obtain ⟨x5, rfl, b5, d5⟩ := aG_int g5
  dsimp only at b5 d5
  obtain ⟨m1, m2, m3, m4⟩ := hM0
  have l0 : 0 ≤ (1 * x1.toInt + (-1 * x0.toInt + (64 * x4.toInt + 0))) + 0 := by
    obtain ⟨z, e6, e7⟩ := m3 ([(1, 1), (0, -1), (4, 64)], 0) (List.mem_of_getElem? (i := 0) rfl)
    obtain rfl : (1 * x1.toInt + (-1 * x0.toInt + (64 * x4.toInt + 0))) = z := Option.some.inj (show some (1 * x1.toInt + (-1 * x0.toInt + (64 * x4.toInt + 0))) = some z from e6)
    exact e7
  have l1 : 0 ≤ (-1 * x1.toInt + (1 * x0.toInt + (-64 * x4.toInt + 0))) + 0 := by
    obtain ⟨z, e6, e7⟩ := m3 ([(1, -1), (0, 1), (4, -64)], 0) (List.mem_of_getElem? (i := 1) rfl)
    obtain rfl : (-1 * x1.toInt + (1 * x0.toInt + (-64 * x4.toInt + 0))) = z := Option.some.inj (show some (-1 * x1.toInt + (1 * x0.toInt + (-64 * x4.toInt + 0))) = some z from e6)
    exact e7
  have l2 : 0 ≤ (1 * x2.toInt + (-1 * x4.toInt + (64 * x5.toInt + 0))) + 0 := by
    obtain ⟨z, e6, e7⟩ := m3 ([(2, 1), (4, -1), (5, 64)], 0) (List.mem_of_getElem? (i := 2) rfl)
    obtain rfl : (1 * x2.toInt + (-1 * x4.toInt + (64 * x5.toInt + 0))) = z := Option.some.inj (show some (1 * x2.toInt + (-1 * x4.toInt + (64 * x5.toInt + 0))) = some z from e6)
    exact e7
  have l3 : 0 ≤ (-1 * x2.toInt + (1 * x4.toInt + (-64 * x5.toInt + 0))) + 0 := by
    obtain ⟨z, e6, e7⟩ := m3 ([(2, -1), (4, 1), (5, -64)], 0) (List.mem_of_getElem? (i := 3) rfl)
    obtain rfl : (-1 * x2.toInt + (1 * x4.toInt + (-64 * x5.toInt + 0))) = z := Option.some.inj (show some (-1 * x2.toInt + (1 * x4.toInt + (-64 * x5.toInt + 0))) = some z from e6)
    exact e7
  have l4 : 0 ≤ (1 * x0.toInt + (-4096 * x3.toInt + 0)) + 0 := by
    obtain ⟨z, e6, e7⟩ := m3 ([(0, 1), (3, -4096)], 0) (List.mem_of_getElem? (i := 4) rfl)
    obtain rfl : (1 * x0.toInt + (-4096 * x3.toInt + 0)) = z := Option.some.inj (show some (1 * x0.toInt + (-4096 * x3.toInt + 0)) = some z from e6)
    exact e7
  have l5 : 0 ≤ (-1 * x0.toInt + (4096 * x3.toInt + 0)) + 4095 := by
    obtain ⟨z, e6, e7⟩ := m3 ([(0, -1), (3, 4096)], 4095) (List.mem_of_getElem? (i := 5) rfl)
    obtain rfl : (-1 * x0.toInt + (4096 * x3.toInt + 0)) = z := Option.some.inj (show some (-1 * x0.toInt + (4096 * x3.toInt + 0)) = some z from e6)
    exact e7
  clear m1 m2 m3 m4
  have q0 : rB K n p 160 [rI x0, rI x1, rI x2, rI x3] σ := ro_160.mpr (by
    unfold rFr rTo rBc
    omega)
  exact ⟨p, fun _ => rfl, ⟨(fun q h => by cases h), fun q h => (by cases h), (fun f h => by cases h), (aAllc ⟨_, rfl, (rF_b (r := 2564) (by decide) rfl).mpr q0⟩ (fun f h => by cases h))⟩, [], List.mem_cons_self, fun f h => (by cases h)⟩
theorem rw_rvFMA {K : Nat → Nat} {n : Nat} {JX : (Nat → jcell) → Prop} : aGho (rF K n) fa_T K n JX ag_rvFMA := by
  refine aGho_of ⟨rfl, rfl⟩ ?_
  intro p σ ρ hH hX hA hM0
  have hG := aAG_of hA.1 (fun i e v he hv => (hA.2 i e v he hv).1)
  clear hA
  obtain ⟨v0, v1, v2, v3, v4, v5, v6, rfl, g0, g1, g2, g3, g4, g5, g6⟩ := rA_7 hG
  clear hG
  obtain ⟨x0, rfl, b0, d0⟩ := rG_ref (by decide) g0
  obtain ⟨x1, rfl, b1, d1⟩ := aG_int g1
  dsimp only at b1 d1
  obtain ⟨x2, rfl, b2, d2⟩ := aG_int g2
  dsimp only at b2 d2
  obtain ⟨x3, rfl, b3, d3⟩ := aG_int g3
  dsimp only at b3 d3
  obtain ⟨x4, rfl, b4, d4⟩ := aG_int g4
  dsimp only at b4 d4
  obtain ⟨x5, rfl, b5, d5⟩ := aG_int g5
  dsimp only at b5 d5
  obtain ⟨x6, rfl, b6, d6⟩ := rG_ref (by decide) g6
  obtain ⟨m1, m2, m3, m4⟩ := hM0
  obtain ⟨M, hM⟩ := rMe_ex hH b0 d0
  obtain ⟨a0, c0, fs0, w0, e1, s0, t0, e4⟩ := m1 (0, 2, 6) (List.mem_of_getElem? (i := 0) rfl)
  obtain rfl : x0 = a0 := Sum.inl.inj (Option.some.inj (Sum.inr.inj (Sum.inr.inj (Option.some.inj (show some (rR x0) = some _ from e1)))))
  obtain rfl : rR x6 = w0 := Option.some.inj (show some (rR x6) = some w0 from e4)
  clear e1 e4
  obtain ⟨a, mc0, ty0, gc0, ic0, e1, sc0, jc0, e4, e5⟩ := m2 (6, ([(2, 1)], 0), 5) (List.mem_of_getElem? (i := 0) rfl)
  obtain rfl : x6 = a := Sum.inl.inj (Option.some.inj (Sum.inr.inj (Sum.inr.inj (Option.some.inj (show some (rR x6) = some _ from e1)))))
  obtain ⟨gc0, rfl⟩ : ∃ g, gc0 = .inl g := by
    rcases gc0 with g | g
    · exact ⟨g, rfl⟩
    · exact absurd (show some (rI x5) = some (.inr (.inl (g ic0))) from e5) (fun h => by cases h)
  have sc0 : σ x6 = .inl (ty0, mc0, .inl gc0) := sc0
  have ec0 : x5 = gc0 ic0 := Sum.inl.inj (Option.some.inj (show some (rI x5) = some _ from e5))
  have kc0 : (ic0 : Int) = (1 * x2.toInt + 0) + 0 := by
    obtain ⟨z, e6, e7⟩ := e4
    obtain rfl : (1 * x2.toInt + 0) = z := Option.some.inj (show some (1 * x2.toInt + 0) = some z from e6)
    exact e7
  clear e1 e4 e5
  have y0 : M x2.toInt = x5.toInt := rMg_c hM s0 t0 sc0 (by omega) (by omega) (by omega) ec0
  have f0 : rB K n p 22 [rR x0] σ := by
    obtain ⟨w, e6, e7⟩ := m4 (353, [0]) (List.mem_of_getElem? (i := 0) rfl)
    obtain rfl : [rR x0] = w := Option.some.inj (show some [rR x0] = some w from e6)
    exact (rF_b (r := 353) (by decide) rfl).mp e7
  obtain ⟨hp, hR⟩ := ro_22.mp f0
  obtain rfl := rMg_u hM hR.1
  have f1 : rB K n p 160 [rI x1, rI x2, rI x3, rI x4] σ := by
    obtain ⟨w, e6, e7⟩ := m4 (2564, [1, 2, 3, 4]) (List.mem_of_getElem? (i := 1) rfl)
    obtain rfl : [rI x1, rI x2, rI x3, rI x4] = w := Option.some.inj (show some [rI x1, rI x2, rI x3, rI x4] = some w from e6)
    exact (rF_b (r := 2564) (by decide) rfl).mp e7
  have f1 := ro_160.mp f1
  clear m1 m2 m3 m4
  have q0 : rB K n p 65 [rI x1, rI x5] σ := ro_65.mpr (by
    rw [← f1.1]
    exact y0.symm)
  exact ⟨p, fun _ => rfl, ⟨(fun q h => by cases h), fun q h => (by cases h), (fun f h => by cases h), (aAllc ⟨_, rfl, (rF_b (r := 1042) (by decide) rfl).mpr q0⟩ (fun f h => by cases h))⟩, [], List.mem_cons_self, fun f h => (by cases h)⟩
theorem rw_rvWHa {K : Nat → Nat} {n : Nat} {JX : (Nat → jcell) → Prop} : aGho (rF K n) fa_T K n JX ag_rvWHa := by
  refine aGho_of ⟨rfl, rfl⟩ ?_
  intro p σ ρ hH hX hA hM0
  have hG := aAG_of hA.1 (fun i e v he hv => (hA.2 i e v he hv).1)
  clear hA
  obtain ⟨v0, v1, v2, v3, v4, v5, v6, v7, v8, v9, v10, v11, rfl, g0, g1, g2, g3, g4, g5, g6, g7, g8, g9, g10, g11⟩ := rA_12 hG
  clear hG
  obtain ⟨x0, rfl, b0, d0⟩ := rG_ref (by decide) g0
  obtain ⟨x1, rfl, b1, d1⟩ := aG_int g1
  dsimp only at b1 d1
  obtain ⟨x2, rfl, b2, d2⟩ := aG_int g2
  dsimp only at b2 d2
  obtain ⟨x3, rfl, b3, d3⟩ := aG_int g3
  dsimp only at b3 d3
  obtain ⟨x4, rfl, b4, d4⟩ := aG_int g4
  dsimp only at b4 d4
  obtain ⟨x5, rfl, b5, d5⟩ := aG_int g5
  dsimp only at b5 d5
  obtain ⟨x6, rfl, b6, d6⟩ := aG_int g6
  dsimp only at b6 d6
  obtain ⟨x7, rfl, b7, d7⟩ := aG_int g7
  dsimp only at b7 d7
  obtain ⟨x8, rfl, b8, d8⟩ := aG_int g8
  dsimp only at b8 d8
  obtain ⟨x9, rfl, b9, d9⟩ := aG_int g9
  dsimp only at b9 d9
  obtain ⟨x10, rfl, b10, d10⟩ := aG_int g10
  dsimp only at b10 d10
  obtain ⟨x11, rfl, b11, d11⟩ := aG_int g11
  dsimp only at b11 d11
  obtain ⟨m1, m2, m3, m4⟩ := hM0
  obtain ⟨M, hM⟩ := rMe_ex hH b0 d0
  obtain ⟨a0, c0, fs0, w0, e1, s0, t0, e4⟩ := m1 (0, 5, 5) (List.mem_of_getElem? (i := 0) rfl)
  obtain rfl : x0 = a0 := Sum.inl.inj (Option.some.inj (Sum.inr.inj (Sum.inr.inj (Option.some.inj (show some (rR x0) = some _ from e1)))))
  obtain rfl : rI x5 = w0 := Option.some.inj (show some (rI x5) = some w0 from e4)
  clear e1 e4
  have l0 : 0 ≤ (1 * x3.toInt + (-1 * x5.toInt + 0)) + 0 := by
    obtain ⟨z, e6, e7⟩ := m3 ([(3, 1), (5, -1)], 0) (List.mem_of_getElem? (i := 0) rfl)
    obtain rfl : (1 * x3.toInt + (-1 * x5.toInt + 0)) = z := Option.some.inj (show some (1 * x3.toInt + (-1 * x5.toInt + 0)) = some z from e6)
    exact e7
  have l1 : 0 ≤ (-1 * x3.toInt + (1 * x5.toInt + 0)) + 0 := by
    obtain ⟨z, e6, e7⟩ := m3 ([(3, -1), (5, 1)], 0) (List.mem_of_getElem? (i := 1) rfl)
    obtain rfl : (-1 * x3.toInt + (1 * x5.toInt + 0)) = z := Option.some.inj (show some (-1 * x3.toInt + (1 * x5.toInt + 0)) = some z from e6)
    exact e7
  have l2 : 0 ≤ (1 * x6.toInt + (-1 * x10.toInt + (-1 * x3.toInt + (8 * x11.toInt + 0)))) + 0 := by
    obtain ⟨z, e6, e7⟩ := m3 ([(6, 1), (10, -1), (3, -1), (11, 8)], 0) (List.mem_of_getElem? (i := 2) rfl)
    obtain rfl : (1 * x6.toInt + (-1 * x10.toInt + (-1 * x3.toInt + (8 * x11.toInt + 0)))) = z := Option.some.inj (show some (1 * x6.toInt + (-1 * x10.toInt + (-1 * x3.toInt + (8 * x11.toInt + 0)))) = some z from e6)
    exact e7
  have l3 : 0 ≤ (-1 * x6.toInt + (1 * x10.toInt + (1 * x3.toInt + (-8 * x11.toInt + 0)))) + 0 := by
    obtain ⟨z, e6, e7⟩ := m3 ([(6, -1), (10, 1), (3, 1), (11, -8)], 0) (List.mem_of_getElem? (i := 3) rfl)
    obtain rfl : (-1 * x6.toInt + (1 * x10.toInt + (1 * x3.toInt + (-8 * x11.toInt + 0)))) = z := Option.some.inj (show some (-1 * x6.toInt + (1 * x10.toInt + (1 * x3.toInt + (-8 * x11.toInt + 0)))) = some z from e6)
    exact e7
  have l4 : 0 ≤ (1 * x3.toInt + (-8 * x11.toInt + 0)) + 0 := by
    obtain ⟨z, e6, e7⟩ := m3 ([(3, 1), (11, -8)], 0) (List.mem_of_getElem? (i := 4) rfl)
    obtain rfl : (1 * x3.toInt + (-8 * x11.toInt + 0)) = z := Option.some.inj (show some (1 * x3.toInt + (-8 * x11.toInt + 0)) = some z from e6)
    exact e7
  have l5 : 0 ≤ (-1 * x3.toInt + (8 * x11.toInt + 0)) + 7 := by
    obtain ⟨z, e6, e7⟩ := m3 ([(3, -1), (11, 8)], 7) (List.mem_of_getElem? (i := 5) rfl)
    obtain rfl : (-1 * x3.toInt + (8 * x11.toInt + 0)) = z := Option.some.inj (show some (-1 * x3.toInt + (8 * x11.toInt + 0)) = some z from e6)
    exact e7
  have l6 : 0 ≤ (1 * x9.toInt + 0) + -56 := by
    obtain ⟨z, e6, e7⟩ := m3 ([(9, 1)], -56) (List.mem_of_getElem? (i := 6) rfl)
    obtain rfl : (1 * x9.toInt + 0) = z := Option.some.inj (show some (1 * x9.toInt + 0) = some z from e6)
    exact e7
  have l7 : 0 ≤ (-1 * x9.toInt + 0) + 56 := by
    obtain ⟨z, e6, e7⟩ := m3 ([(9, -1)], 56) (List.mem_of_getElem? (i := 7) rfl)
    obtain rfl : (-1 * x9.toInt + 0) = z := Option.some.inj (show some (-1 * x9.toInt + 0) = some z from e6)
    exact e7
  have f0 : rB K n p 22 [rR x0] σ := by
    obtain ⟨w, e6, e7⟩ := m4 (353, [0]) (List.mem_of_getElem? (i := 0) rfl)
    obtain rfl : [rR x0] = w := Option.some.inj (show some [rR x0] = some w from e6)
    exact (rF_b (r := 353) (by decide) rfl).mp e7
  obtain ⟨hp, hR⟩ := ro_22.mp f0
  obtain rfl := rMg_u hM hR.1
  have uP : p.1.2.2.2 = x5.toInt := rRX_f hR.2.2.2 s0 t0
  have f1 : rB K n p 160 [rI x1, rI x2, rI x3, rI x4] σ := by
    obtain ⟨w, e6, e7⟩ := m4 (2564, [1, 2, 3, 4]) (List.mem_of_getElem? (i := 1) rfl)
    obtain rfl : [rI x1, rI x2, rI x3, rI x4] = w := Option.some.inj (show some [rI x1, rI x2, rI x3, rI x4] = some w from e6)
    exact (rF_b (r := 2564) (by decide) rfl).mp e7
  have f1 := ro_160.mp f1
  have f2 : rB K n p 65 [rI x1, rI x7] σ := by
    obtain ⟨w, e6, e7⟩ := m4 (1042, [1, 7]) (List.mem_of_getElem? (i := 2) rfl)
    obtain rfl : [rI x1, rI x7] = w := Option.some.inj (show some [rI x1, rI x7] = some w from e6)
    exact (rF_b (r := 1042) (by decide) rfl).mp e7
  have f2 := ro_65.mp f2
  have f3 : rB K n p 147 [rI x7, rI x8] σ := by
    obtain ⟨w, e6, e7⟩ := m4 (2354, [7, 8]) (List.mem_of_getElem? (i := 3) rfl)
    obtain rfl : [rI x7, rI x8] = w := Option.some.inj (show some [rI x7, rI x8] = some w from e6)
    exact (rF_b (r := 2354) (by decide) rfl).mp e7
  have f3 := ro_147.mp f3
  have f4 : rB K n p 111 [rI x2, rI x9, rI x10] σ := by
    obtain ⟨w, e6, e7⟩ := m4 (1779, [2, 9, 10]) (List.mem_of_getElem? (i := 4) rfl)
    obtain rfl : [rI x2, rI x9, rI x10] = w := Option.some.inj (show some [rI x2, rI x9, rI x10] = some w from e6)
    exact (rF_b (r := 1779) (by decide) rfl).mp e7
  have f4 : x10 = x2 &&& x9 := Sum.inl.inj (ro_111.mp f4)
  clear m1 m2 m3 m4
  have q0 : rB K n p 64 [rI x1, rI x6] σ := ro_64.mpr (by
    have e := rAnd56 f4 (by omega) (by omega) (by omega)
    unfold rWh
    rw [← f2, ← f1.1, ← f1.2.1, if_pos (by omega)]
    omega)
  exact ⟨p, fun _ => rfl, ⟨(fun q h => by cases h), fun q h => (by cases h), (fun f h => by cases h), (aAllc ⟨_, rfl, (rF_b (r := 1026) (by decide) rfl).mpr q0⟩ (fun f h => by cases h))⟩, [], List.mem_cons_self, fun f h => (by cases h)⟩
theorem rw_rvWHb0 {K : Nat → Nat} {n : Nat} {JX : (Nat → jcell) → Prop} : aGho (rF K n) fa_T K n JX ag_rvWHb0 := by
  refine aGho_of ⟨rfl, rfl⟩ ?_
  intro p σ ρ hH hX hA hM0
  have hG := aAG_of hA.1 (fun i e v he hv => (hA.2 i e v he hv).1)
  clear hA
  obtain ⟨v0, v1, v2, v3, v4, v5, v6, rfl, g0, g1, g2, g3, g4, g5, g6⟩ := rA_7 hG
  clear hG
  obtain ⟨x0, rfl, b0, d0⟩ := rG_ref (by decide) g0
  obtain ⟨x1, rfl, b1, d1⟩ := aG_int g1
  dsimp only at b1 d1
  obtain ⟨x2, rfl, b2, d2⟩ := aG_int g2
  dsimp only at b2 d2
  obtain ⟨x3, rfl, b3, d3⟩ := aG_int g3
  dsimp only at b3 d3
  obtain ⟨x4, rfl, b4, d4⟩ := aG_int g4
  dsimp only at b4 d4
  obtain ⟨x5, rfl, b5, d5⟩ := aG_int g5
  dsimp only at b5 d5
  obtain ⟨x6, rfl, b6, d6⟩ := aG_int g6
  dsimp only at b6 d6
  obtain ⟨m1, m2, m3, m4⟩ := hM0
  obtain ⟨M, hM⟩ := rMe_ex hH b0 d0
  have f0 : rB K n p 22 [rR x0] σ := by
    obtain ⟨w, e6, e7⟩ := m4 (353, [0]) (List.mem_of_getElem? (i := 0) rfl)
    obtain rfl : [rR x0] = w := Option.some.inj (show some [rR x0] = some w from e6)
    exact (rF_b (r := 353) (by decide) rfl).mp e7
  obtain ⟨hp, hR⟩ := ro_22.mp f0
  obtain rfl := rMg_u hM hR.1
  have f1 : rB K n p 160 [rI x1, rI x2, rI x3, rI x4] σ := by
    obtain ⟨w, e6, e7⟩ := m4 (2564, [1, 2, 3, 4]) (List.mem_of_getElem? (i := 1) rfl)
    obtain rfl : [rI x1, rI x2, rI x3, rI x4] = w := Option.some.inj (show some [rI x1, rI x2, rI x3, rI x4] = some w from e6)
    exact (rF_b (r := 2564) (by decide) rfl).mp e7
  have f1 := ro_160.mp f1
  have f2 : rB K n p 65 [rI x1, rI x5] σ := by
    obtain ⟨w, e6, e7⟩ := m4 (1042, [1, 5]) (List.mem_of_getElem? (i := 2) rfl)
    obtain rfl : [rI x1, rI x5] = w := Option.some.inj (show some [rI x1, rI x5] = some w from e6)
    exact (rF_b (r := 1042) (by decide) rfl).mp e7
  have f2 := ro_65.mp f2
  have f3 : rB K n p 147 [rI x5, rI x6] σ := by
    obtain ⟨w, e6, e7⟩ := m4 (2354, [5, 6]) (List.mem_of_getElem? (i := 3) rfl)
    obtain rfl : [rI x5, rI x6] = w := Option.some.inj (show some [rI x5, rI x6] = some w from e6)
    exact (rF_b (r := 2354) (by decide) rfl).mp e7
  have f3 := ro_147.mp f3
  clear m1 m2 m3 m4
  have q0 : rB K n p 64 [rI x1, rI x3] σ := ro_64.mpr (by
    unfold rWh
    rw [← f2, ← f1.1, ← f1.2.1, if_neg (by omega)])
  exact ⟨p, fun _ => rfl, ⟨(fun q h => by cases h), fun q h => (by cases h), (fun f h => by cases h), (aAllc ⟨_, rfl, (rF_b (r := 1026) (by decide) rfl).mpr q0⟩ (fun f h => by cases h))⟩, [], List.mem_cons_self, fun f h => (by cases h)⟩
theorem rw_rvWHb1 {K : Nat → Nat} {n : Nat} {JX : (Nat → jcell) → Prop} : aGho (rF K n) fa_T K n JX ag_rvWHb1 := by
  refine aGho_of ⟨rfl, rfl⟩ ?_
  intro p σ ρ hH hX hA hM0
  have hG := aAG_of hA.1 (fun i e v he hv => (hA.2 i e v he hv).1)
  clear hA
  obtain ⟨v0, v1, v2, v3, v4, v5, v6, rfl, g0, g1, g2, g3, g4, g5, g6⟩ := rA_7 hG
  clear hG
  obtain ⟨x0, rfl, b0, d0⟩ := rG_ref (by decide) g0
  obtain ⟨x1, rfl, b1, d1⟩ := aG_int g1
  dsimp only at b1 d1
  obtain ⟨x2, rfl, b2, d2⟩ := aG_int g2
  dsimp only at b2 d2
  obtain ⟨x3, rfl, b3, d3⟩ := aG_int g3
  dsimp only at b3 d3
  obtain ⟨x4, rfl, b4, d4⟩ := aG_int g4
  dsimp only at b4 d4
  obtain ⟨x5, rfl, b5, d5⟩ := aG_int g5
  dsimp only at b5 d5
  obtain ⟨x6, rfl, b6, d6⟩ := aG_int g6
  dsimp only at b6 d6
  obtain ⟨m1, m2, m3, m4⟩ := hM0
  obtain ⟨M, hM⟩ := rMe_ex hH b0 d0
  have f0 : rB K n p 22 [rR x0] σ := by
    obtain ⟨w, e6, e7⟩ := m4 (353, [0]) (List.mem_of_getElem? (i := 0) rfl)
    obtain rfl : [rR x0] = w := Option.some.inj (show some [rR x0] = some w from e6)
    exact (rF_b (r := 353) (by decide) rfl).mp e7
  obtain ⟨hp, hR⟩ := ro_22.mp f0
  obtain rfl := rMg_u hM hR.1
  have f1 : rB K n p 160 [rI x1, rI x2, rI x3, rI x4] σ := by
    obtain ⟨w, e6, e7⟩ := m4 (2564, [1, 2, 3, 4]) (List.mem_of_getElem? (i := 1) rfl)
    obtain rfl : [rI x1, rI x2, rI x3, rI x4] = w := Option.some.inj (show some [rI x1, rI x2, rI x3, rI x4] = some w from e6)
    exact (rF_b (r := 2564) (by decide) rfl).mp e7
  have f1 := ro_160.mp f1
  have f2 : rB K n p 65 [rI x1, rI x5] σ := by
    obtain ⟨w, e6, e7⟩ := m4 (1042, [1, 5]) (List.mem_of_getElem? (i := 2) rfl)
    obtain rfl : [rI x1, rI x5] = w := Option.some.inj (show some [rI x1, rI x5] = some w from e6)
    exact (rF_b (r := 1042) (by decide) rfl).mp e7
  have f2 := ro_65.mp f2
  have f3 : rB K n p 147 [rI x5, rI x6] σ := by
    obtain ⟨w, e6, e7⟩ := m4 (2354, [5, 6]) (List.mem_of_getElem? (i := 3) rfl)
    obtain rfl : [rI x5, rI x6] = w := Option.some.inj (show some [rI x5, rI x6] = some w from e6)
    exact (rF_b (r := 2354) (by decide) rfl).mp e7
  have f3 := ro_147.mp f3
  clear m1 m2 m3 m4
  have q0 : rB K n p 64 [rI x1, rI x3] σ := ro_64.mpr (by
    unfold rWh
    rw [← f2, ← f1.1, ← f1.2.1, if_neg (by omega)])
  exact ⟨p, fun _ => rfl, ⟨(fun q h => by cases h), fun q h => (by cases h), (fun f h => by cases h), (aAllc ⟨_, rfl, (rF_b (r := 1026) (by decide) rfl).mpr q0⟩ (fun f h => by cases h))⟩, [], List.mem_cons_self, fun f h => (by cases h)⟩
theorem rw_rvWHcu {K : Nat → Nat} {n : Nat} {JX : (Nat → jcell) → Prop} : aGho (rF K n) fa_T K n JX ag_rvWHcu := by
  refine aGho_of ⟨rfl, rfl⟩ ?_
  intro p σ ρ hH hX hA hM0
  have hG := aAG_of hA.1 (fun i e v he hv => (hA.2 i e v he hv).1)
  clear hA
  obtain ⟨v0, v1, v2, v3, v4, v5, rfl, g0, g1, g2, g3, g4, g5⟩ := rA_6 hG
  clear hG
  obtain ⟨x0, rfl, b0, d0⟩ := rG_ref (by decide) g0
  obtain ⟨x1, rfl, b1, d1⟩ := aG_int g1
  dsimp only at b1 d1
  obtain ⟨x2, rfl, b2, d2⟩ := aG_int g2
  dsimp only at b2 d2
  obtain ⟨x3, rfl, b3, d3⟩ := aG_int g3
  dsimp only at b3 d3
  obtain ⟨x4, rfl, b4, d4⟩ := aG_int g4
  dsimp only at b4 d4
  obtain ⟨x5, rfl, b5, d5⟩ := aG_int g5
  dsimp only at b5 d5
  obtain ⟨m1, m2, m3, m4⟩ := hM0
  obtain ⟨M, hM⟩ := rMe_ex hH b0 d0
  obtain ⟨a0, c0, fs0, w0, e1, s0, t0, e4⟩ := m1 (0, 5, 5) (List.mem_of_getElem? (i := 0) rfl)
  obtain rfl : x0 = a0 := Sum.inl.inj (Option.some.inj (Sum.inr.inj (Sum.inr.inj (Option.some.inj (show some (rR x0) = some _ from e1)))))
  obtain rfl : rI x5 = w0 := Option.some.inj (show some (rI x5) = some w0 from e4)
  clear e1 e4
  have l0 : 0 ≤ (1 * x3.toInt + (-1 * x5.toInt + 0)) + -1 := by
    obtain ⟨z, e6, e7⟩ := m3 ([(3, 1), (5, -1)], -1) (List.mem_of_getElem? (i := 0) rfl)
    obtain rfl : (1 * x3.toInt + (-1 * x5.toInt + 0)) = z := Option.some.inj (show some (1 * x3.toInt + (-1 * x5.toInt + 0)) = some z from e6)
    exact e7
  have f0 : rB K n p 22 [rR x0] σ := by
    obtain ⟨w, e6, e7⟩ := m4 (353, [0]) (List.mem_of_getElem? (i := 0) rfl)
    obtain rfl : [rR x0] = w := Option.some.inj (show some [rR x0] = some w from e6)
    exact (rF_b (r := 353) (by decide) rfl).mp e7
  obtain ⟨hp, hR⟩ := ro_22.mp f0
  obtain rfl := rMg_u hM hR.1
  have uP : p.1.2.2.2 = x5.toInt := rRX_f hR.2.2.2 s0 t0
  have f1 : rB K n p 160 [rI x1, rI x2, rI x3, rI x4] σ := by
    obtain ⟨w, e6, e7⟩ := m4 (2564, [1, 2, 3, 4]) (List.mem_of_getElem? (i := 1) rfl)
    obtain rfl : [rI x1, rI x2, rI x3, rI x4] = w := Option.some.inj (show some [rI x1, rI x2, rI x3, rI x4] = some w from e6)
    exact (rF_b (r := 2564) (by decide) rfl).mp e7
  have f1 := ro_160.mp f1
  clear m1 m2 m3 m4
  have q0 : rB K n p 64 [rI x1, rI x3] σ := ro_64.mpr (by
    unfold rWh
    rw [← f1.1, ← f1.2.1, if_neg (by omega)])
  exact ⟨p, fun _ => rfl, ⟨(fun q h => by cases h), fun q h => (by cases h), (fun f h => by cases h), (aAllc ⟨_, rfl, (rF_b (r := 1026) (by decide) rfl).mpr q0⟩ (fun f h => by cases h))⟩, [], List.mem_cons_self, fun f h => (by cases h)⟩
theorem rw_rvWHcd {K : Nat → Nat} {n : Nat} {JX : (Nat → jcell) → Prop} : aGho (rF K n) fa_T K n JX ag_rvWHcd := by
  refine aGho_of ⟨rfl, rfl⟩ ?_
  intro p σ ρ hH hX hA hM0
  have hG := aAG_of hA.1 (fun i e v he hv => (hA.2 i e v he hv).1)
  clear hA
  obtain ⟨v0, v1, v2, v3, v4, v5, rfl, g0, g1, g2, g3, g4, g5⟩ := rA_6 hG
  clear hG
  obtain ⟨x0, rfl, b0, d0⟩ := rG_ref (by decide) g0
  obtain ⟨x1, rfl, b1, d1⟩ := aG_int g1
  dsimp only at b1 d1
  obtain ⟨x2, rfl, b2, d2⟩ := aG_int g2
  dsimp only at b2 d2
  obtain ⟨x3, rfl, b3, d3⟩ := aG_int g3
  dsimp only at b3 d3
  obtain ⟨x4, rfl, b4, d4⟩ := aG_int g4
  dsimp only at b4 d4
  obtain ⟨x5, rfl, b5, d5⟩ := aG_int g5
  dsimp only at b5 d5
  obtain ⟨m1, m2, m3, m4⟩ := hM0
  obtain ⟨M, hM⟩ := rMe_ex hH b0 d0
  obtain ⟨a0, c0, fs0, w0, e1, s0, t0, e4⟩ := m1 (0, 5, 5) (List.mem_of_getElem? (i := 0) rfl)
  obtain rfl : x0 = a0 := Sum.inl.inj (Option.some.inj (Sum.inr.inj (Sum.inr.inj (Option.some.inj (show some (rR x0) = some _ from e1)))))
  obtain rfl : rI x5 = w0 := Option.some.inj (show some (rI x5) = some w0 from e4)
  clear e1 e4
  have l0 : 0 ≤ (-1 * x3.toInt + (1 * x5.toInt + 0)) + -1 := by
    obtain ⟨z, e6, e7⟩ := m3 ([(3, -1), (5, 1)], -1) (List.mem_of_getElem? (i := 0) rfl)
    obtain rfl : (-1 * x3.toInt + (1 * x5.toInt + 0)) = z := Option.some.inj (show some (-1 * x3.toInt + (1 * x5.toInt + 0)) = some z from e6)
    exact e7
  have f0 : rB K n p 22 [rR x0] σ := by
    obtain ⟨w, e6, e7⟩ := m4 (353, [0]) (List.mem_of_getElem? (i := 0) rfl)
    obtain rfl : [rR x0] = w := Option.some.inj (show some [rR x0] = some w from e6)
    exact (rF_b (r := 353) (by decide) rfl).mp e7
  obtain ⟨hp, hR⟩ := ro_22.mp f0
  obtain rfl := rMg_u hM hR.1
  have uP : p.1.2.2.2 = x5.toInt := rRX_f hR.2.2.2 s0 t0
  have f1 : rB K n p 160 [rI x1, rI x2, rI x3, rI x4] σ := by
    obtain ⟨w, e6, e7⟩ := m4 (2564, [1, 2, 3, 4]) (List.mem_of_getElem? (i := 1) rfl)
    obtain rfl : [rI x1, rI x2, rI x3, rI x4] = w := Option.some.inj (show some [rI x1, rI x2, rI x3, rI x4] = some w from e6)
    exact (rF_b (r := 2564) (by decide) rfl).mp e7
  have f1 := ro_160.mp f1
  clear m1 m2 m3 m4
  have q0 : rB K n p 64 [rI x1, rI x3] σ := ro_64.mpr (by
    unfold rWh
    rw [← f1.1, ← f1.2.1, if_neg (by omega)])
  exact ⟨p, fun _ => rfl, ⟨(fun q h => by cases h), fun q h => (by cases h), (fun f h => by cases h), (aAllc ⟨_, rfl, (rF_b (r := 1026) (by decide) rfl).mpr q0⟩ (fun f h => by cases h))⟩, [], List.mem_cons_self, fun f h => (by cases h)⟩
theorem rw_rvUD {K : Nat → Nat} {n : Nat} {JX : (Nat → jcell) → Prop} : aGho (rF K n) fa_T K n JX ag_rvUD := by
  refine aGho_of ⟨rfl, rfl⟩ ?_
  intro p σ ρ hH hX hA hM0
  have hG := aAG_of hA.1 (fun i e v he hv => (hA.2 i e v he hv).1)
  clear hA
  obtain ⟨v0, v1, v2, v3, v4, v5, v6, v7, v8, v9, v10, v11, v12, v13, v14, v15, v16, rfl, g0, g1, g2, g3, g4, g5, g6, g7, g8, g9, g10, g11, g12, g13, g14, g15, g16⟩ := rA_17 hG
  clear hG
  obtain ⟨x0, rfl, b0, d0⟩ := rG_ref (by decide) g0
  obtain ⟨x1, rfl, b1, d1⟩ := aG_int g1
  dsimp only at b1 d1
  obtain ⟨x2, rfl, b2, d2⟩ := aG_int g2
  dsimp only at b2 d2
  obtain ⟨x3, rfl, b3, d3⟩ := aG_int g3
  dsimp only at b3 d3
  obtain ⟨x4, rfl, b4, d4⟩ := aG_int g4
  dsimp only at b4 d4
  obtain ⟨x5, rfl, b5, d5⟩ := aG_int g5
  dsimp only at b5 d5
  obtain ⟨x6, rfl, b6, d6⟩ := aG_int g6
  dsimp only at b6 d6
  obtain ⟨x7, rfl, b7, d7⟩ := aG_int g7
  dsimp only at b7 d7
  obtain ⟨x8, rfl, b8, d8⟩ := aG_int g8
  dsimp only at b8 d8
  obtain ⟨x9, rfl, b9, d9⟩ := aG_int g9
  dsimp only at b9 d9
  obtain ⟨x10, rfl, b10, d10⟩ := aG_int g10
  dsimp only at b10 d10
  obtain ⟨x11, rfl, b11, d11⟩ := rG_ref (by decide) g11
  obtain ⟨x12, rfl, b12, d12⟩ := rG_ref (by decide) g12
  obtain ⟨x13, rfl, b13, d13⟩ := rG_ref (by decide) g13
  obtain ⟨x14, rfl, b14, d14⟩ := rG_ref (by decide) g14
  obtain ⟨x15, rfl, b15, d15⟩ := rG_ref (by decide) g15
  obtain ⟨x16, rfl, b16, d16⟩ := rG_ref (by decide) g16
  obtain ⟨m1, m2, m3, m4⟩ := hM0
  obtain ⟨M, hM⟩ := rMe_ex hH b0 d0
  obtain ⟨a0, c0, fs0, w0, e1, s0, t0, e4⟩ := m1 (0, 2, 11) (List.mem_of_getElem? (i := 0) rfl)
  obtain rfl : x0 = a0 := Sum.inl.inj (Option.some.inj (Sum.inr.inj (Sum.inr.inj (Option.some.inj (show some (rR x0) = some _ from e1)))))
  obtain rfl : rR x11 = w0 := Option.some.inj (show some (rR x11) = some w0 from e4)
  clear e1 e4
  obtain ⟨a1, c1, fs1, w1, e1, s1, t1, e4⟩ := m1 (0, 15, 12) (List.mem_of_getElem? (i := 1) rfl)
  obtain rfl : x0 = a1 := Sum.inl.inj (Option.some.inj (Sum.inr.inj (Sum.inr.inj (Option.some.inj (show some (rR x0) = some _ from e1)))))
  obtain rfl : rR x12 = w1 := Option.some.inj (show some (rR x12) = some w1 from e4)
  clear e1 e4
  obtain ⟨a2, c2, fs2, w2, e1, s2, t2, e4⟩ := m1 (0, 16, 13) (List.mem_of_getElem? (i := 2) rfl)
  obtain rfl : x0 = a2 := Sum.inl.inj (Option.some.inj (Sum.inr.inj (Sum.inr.inj (Option.some.inj (show some (rR x0) = some _ from e1)))))
  obtain rfl : rR x13 = w2 := Option.some.inj (show some (rR x13) = some w2 from e4)
  clear e1 e4
  obtain ⟨a3, c3, fs3, w3, e1, s3, t3, e4⟩ := m1 (0, 17, 14) (List.mem_of_getElem? (i := 3) rfl)
  obtain rfl : x0 = a3 := Sum.inl.inj (Option.some.inj (Sum.inr.inj (Sum.inr.inj (Option.some.inj (show some (rR x0) = some _ from e1)))))
  obtain rfl : rR x14 = w3 := Option.some.inj (show some (rR x14) = some w3 from e4)
  clear e1 e4
  obtain ⟨a4, c4, fs4, w4, e1, s4, t4, e4⟩ := m1 (0, 18, 15) (List.mem_of_getElem? (i := 4) rfl)
  obtain rfl : x0 = a4 := Sum.inl.inj (Option.some.inj (Sum.inr.inj (Sum.inr.inj (Option.some.inj (show some (rR x0) = some _ from e1)))))
  obtain rfl : rR x15 = w4 := Option.some.inj (show some (rR x15) = some w4 from e4)
  clear e1 e4
  obtain ⟨a5, c5, fs5, w5, e1, s5, t5, e4⟩ := m1 (0, 19, 16) (List.mem_of_getElem? (i := 5) rfl)
  obtain rfl : x0 = a5 := Sum.inl.inj (Option.some.inj (Sum.inr.inj (Sum.inr.inj (Option.some.inj (show some (rR x0) = some _ from e1)))))
  obtain rfl : rR x16 = w5 := Option.some.inj (show some (rR x16) = some w5 from e4)
  clear e1 e4
  obtain ⟨a6, c6, fs6, w6, e1, s6, t6, e4⟩ := m1 (0, 4, 9) (List.mem_of_getElem? (i := 6) rfl)
  obtain rfl : x0 = a6 := Sum.inl.inj (Option.some.inj (Sum.inr.inj (Sum.inr.inj (Option.some.inj (show some (rR x0) = some _ from e1)))))
  obtain rfl : rI x9 = w6 := Option.some.inj (show some (rI x9) = some w6 from e4)
  clear e1 e4
  obtain ⟨a7, c7, fs7, w7, e1, s7, t7, e4⟩ := m1 (0, 5, 10) (List.mem_of_getElem? (i := 7) rfl)
  obtain rfl : x0 = a7 := Sum.inl.inj (Option.some.inj (Sum.inr.inj (Sum.inr.inj (Option.some.inj (show some (rR x0) = some _ from e1)))))
  obtain rfl : rI x10 = w7 := Option.some.inj (show some (rI x10) = some w7 from e4)
  clear e1 e4
  obtain ⟨a, mc0, ty0, gc0, ic0, e1, sc0, jc0, e4, e5⟩ := m2 (11, ([(8, 1)], 0), 7) (List.mem_of_getElem? (i := 0) rfl)
  obtain rfl : x11 = a := Sum.inl.inj (Option.some.inj (Sum.inr.inj (Sum.inr.inj (Option.some.inj (show some (rR x11) = some _ from e1)))))
  obtain ⟨gc0, rfl⟩ : ∃ g, gc0 = .inl g := by
    rcases gc0 with g | g
    · exact ⟨g, rfl⟩
    · exact absurd (show some (rI x7) = some (.inr (.inl (g ic0))) from e5) (fun h => by cases h)
  have sc0 : σ x11 = .inl (ty0, mc0, .inl gc0) := sc0
  have ec0 : x7 = gc0 ic0 := Sum.inl.inj (Option.some.inj (show some (rI x7) = some _ from e5))
  have kc0 : (ic0 : Int) = (1 * x8.toInt + 0) + 0 := by
    obtain ⟨z, e6, e7⟩ := e4
    obtain rfl : (1 * x8.toInt + 0) = z := Option.some.inj (show some (1 * x8.toInt + 0) = some z from e6)
    exact e7
  clear e1 e4 e5
  obtain ⟨a, mc1, ty1, gc1, ic1, e1, sc1, jc1, e4, e5⟩ := m2 (12, ([(5, 1)], 0), 6) (List.mem_of_getElem? (i := 1) rfl)
  obtain rfl : x12 = a := Sum.inl.inj (Option.some.inj (Sum.inr.inj (Sum.inr.inj (Option.some.inj (show some (rR x12) = some _ from e1)))))
  obtain ⟨gc1, rfl⟩ : ∃ g, gc1 = .inl g := by
    rcases gc1 with g | g
    · exact ⟨g, rfl⟩
    · exact absurd (show some (rI x6) = some (.inr (.inl (g ic1))) from e5) (fun h => by cases h)
  have sc1 : σ x12 = .inl (ty1, mc1, .inl gc1) := sc1
  have ec1 : x6 = gc1 ic1 := Sum.inl.inj (Option.some.inj (show some (rI x6) = some _ from e5))
  have kc1 : (ic1 : Int) = (1 * x5.toInt + 0) + 0 := by
    obtain ⟨z, e6, e7⟩ := e4
    obtain rfl : (1 * x5.toInt + 0) = z := Option.some.inj (show some (1 * x5.toInt + 0) = some z from e6)
    exact e7
  clear e1 e4 e5
  obtain ⟨a, mc2, ty2, gc2, ic2, e1, sc2, jc2, e4, e5⟩ := m2 (13, ([(5, 1)], 0), 7) (List.mem_of_getElem? (i := 2) rfl)
  obtain rfl : x13 = a := Sum.inl.inj (Option.some.inj (Sum.inr.inj (Sum.inr.inj (Option.some.inj (show some (rR x13) = some _ from e1)))))
  obtain ⟨gc2, rfl⟩ : ∃ g, gc2 = .inl g := by
    rcases gc2 with g | g
    · exact ⟨g, rfl⟩
    · exact absurd (show some (rI x7) = some (.inr (.inl (g ic2))) from e5) (fun h => by cases h)
  have sc2 : σ x13 = .inl (ty2, mc2, .inl gc2) := sc2
  have ec2 : x7 = gc2 ic2 := Sum.inl.inj (Option.some.inj (show some (rI x7) = some _ from e5))
  have kc2 : (ic2 : Int) = (1 * x5.toInt + 0) + 0 := by
    obtain ⟨z, e6, e7⟩ := e4
    obtain rfl : (1 * x5.toInt + 0) = z := Option.some.inj (show some (1 * x5.toInt + 0) = some z from e6)
    exact e7
  clear e1 e4 e5
  obtain ⟨a, mc3, ty3, gc3, ic3, e1, sc3, jc3, e4, e5⟩ := m2 (14, ([(5, 1)], 0), 8) (List.mem_of_getElem? (i := 3) rfl)
  obtain rfl : x14 = a := Sum.inl.inj (Option.some.inj (Sum.inr.inj (Sum.inr.inj (Option.some.inj (show some (rR x14) = some _ from e1)))))
  obtain ⟨gc3, rfl⟩ : ∃ g, gc3 = .inl g := by
    rcases gc3 with g | g
    · exact ⟨g, rfl⟩
    · exact absurd (show some (rI x8) = some (.inr (.inl (g ic3))) from e5) (fun h => by cases h)
  have sc3 : σ x14 = .inl (ty3, mc3, .inl gc3) := sc3
  have ec3 : x8 = gc3 ic3 := Sum.inl.inj (Option.some.inj (show some (rI x8) = some _ from e5))
  have kc3 : (ic3 : Int) = (1 * x5.toInt + 0) + 0 := by
    obtain ⟨z, e6, e7⟩ := e4
    obtain rfl : (1 * x5.toInt + 0) = z := Option.some.inj (show some (1 * x5.toInt + 0) = some z from e6)
    exact e7
  clear e1 e4 e5
  obtain ⟨a, mc4, ty4, gc4, ic4, e1, sc4, jc4, e4, e5⟩ := m2 (15, ([(5, 1)], 0), 9) (List.mem_of_getElem? (i := 4) rfl)
  obtain rfl : x15 = a := Sum.inl.inj (Option.some.inj (Sum.inr.inj (Sum.inr.inj (Option.some.inj (show some (rR x15) = some _ from e1)))))
  obtain ⟨gc4, rfl⟩ : ∃ g, gc4 = .inl g := by
    rcases gc4 with g | g
    · exact ⟨g, rfl⟩
    · exact absurd (show some (rI x9) = some (.inr (.inl (g ic4))) from e5) (fun h => by cases h)
  have sc4 : σ x15 = .inl (ty4, mc4, .inl gc4) := sc4
  have ec4 : x9 = gc4 ic4 := Sum.inl.inj (Option.some.inj (show some (rI x9) = some _ from e5))
  have kc4 : (ic4 : Int) = (1 * x5.toInt + 0) + 0 := by
    obtain ⟨z, e6, e7⟩ := e4
    obtain rfl : (1 * x5.toInt + 0) = z := Option.some.inj (show some (1 * x5.toInt + 0) = some z from e6)
    exact e7
  clear e1 e4 e5
  obtain ⟨a, mc5, ty5, gc5, ic5, e1, sc5, jc5, e4, e5⟩ := m2 (16, ([(5, 1)], 0), 10) (List.mem_of_getElem? (i := 5) rfl)
  obtain rfl : x16 = a := Sum.inl.inj (Option.some.inj (Sum.inr.inj (Sum.inr.inj (Option.some.inj (show some (rR x16) = some _ from e1)))))
  obtain ⟨gc5, rfl⟩ : ∃ g, gc5 = .inl g := by
    rcases gc5 with g | g
    · exact ⟨g, rfl⟩
    · exact absurd (show some (rI x10) = some (.inr (.inl (g ic5))) from e5) (fun h => by cases h)
  have sc5 : σ x16 = .inl (ty5, mc5, .inl gc5) := sc5
  have ec5 : x10 = gc5 ic5 := Sum.inl.inj (Option.some.inj (show some (rI x10) = some _ from e5))
  have kc5 : (ic5 : Int) = (1 * x5.toInt + 0) + 0 := by
    obtain ⟨z, e6, e7⟩ := e4
    obtain rfl : (1 * x5.toInt + 0) = z := Option.some.inj (show some (1 * x5.toInt + 0) = some z from e6)
    exact e7
  clear e1 e4 e5
  have y0 : M x8.toInt = x7.toInt := rMg_c hM s0 t0 sc0 (by omega) (by omega) (by omega) ec0
  have f0 : rB K n p 22 [rR x0] σ := by
    obtain ⟨w, e6, e7⟩ := m4 (353, [0]) (List.mem_of_getElem? (i := 0) rfl)
    obtain rfl : [rR x0] = w := Option.some.inj (show some [rR x0] = some w from e6)
    exact (rF_b (r := 353) (by decide) rfl).mp e7
  obtain ⟨hp, hR⟩ := ro_22.mp f0
  obtain rfl := rMg_u hM hR.1
  have uR : p.1.2.2.1 = x9.toInt := rRX_f hR.2.2.1 s6 t6
  have uP : p.1.2.2.2 = x10.toInt := rRX_f hR.2.2.2 s7 t7
  have f1 : rB K n p 160 [rI x1, rI x2, rI x3, rI x4] σ := by
    obtain ⟨w, e6, e7⟩ := m4 (2564, [1, 2, 3, 4]) (List.mem_of_getElem? (i := 1) rfl)
    obtain rfl : [rI x1, rI x2, rI x3, rI x4] = w := Option.some.inj (show some [rI x1, rI x2, rI x3, rI x4] = some w from e6)
    exact (rF_b (r := 2564) (by decide) rfl).mp e7
  have f1 := ro_160.mp f1
  have f2 : rB K n p 65 [rI x1, rI x6] σ := by
    obtain ⟨w, e6, e7⟩ := m4 (1042, [1, 6]) (List.mem_of_getElem? (i := 2) rfl)
    obtain rfl : [rI x1, rI x6] = w := Option.some.inj (show some [rI x1, rI x6] = some w from e6)
    exact (rF_b (r := 1042) (by decide) rfl).mp e7
  have f2 := ro_65.mp f2
  have f3 : rB K n p 64 [rI x1, rI x8] σ := by
    obtain ⟨w, e6, e7⟩ := m4 (1026, [1, 8]) (List.mem_of_getElem? (i := 3) rfl)
    obtain rfl : [rI x1, rI x8] = w := Option.some.inj (show some [rI x1, rI x8] = some w from e6)
    exact (rF_b (r := 1026) (by decide) rfl).mp e7
  have f3 := ro_64.mp f3
  clear m1 m2 m3 m4
  have q0 : rB K n p 28 [rR x0, rI x5, rI x1] σ := ro_28.mpr (by
    refine ⟨hp, by omega, ?_, ?_, ?_, ?_, ?_⟩
    · obtain ⟨g, h⟩ := rRo_of (k := 88) (f := 15) hH b0 d0 s1 t1 b12 d12 rfl
      have e1 := rRo_c (i := ic1) h s1 t1 sc1 ec1
      rw [show ic1 = x5.toInt.toNat by omega] at e1
      exact ⟨g, h, by rw [e1, f2]⟩
    · obtain ⟨g, h⟩ := rRo_of (k := 88) (f := 16) hH b0 d0 s2 t2 b13 d13 rfl
      have e1 := rRo_c (i := ic2) h s2 t2 sc2 ec2
      rw [show ic2 = x5.toInt.toNat by omega] at e1
      exact ⟨g, h, by rw [e1, ← y0, ← f3]⟩
    · obtain ⟨g, h⟩ := rRo_of (k := 88) (f := 17) hH b0 d0 s3 t3 b14 d14 rfl
      have e1 := rRo_c (i := ic3) h s3 t3 sc3 ec3
      rw [show ic3 = x5.toInt.toNat by omega] at e1
      exact ⟨g, h, by rw [e1, f3]⟩
    · obtain ⟨g, h⟩ := rRo_of (k := 88) (f := 18) hH b0 d0 s4 t4 b15 d15 rfl
      have e1 := rRo_c (i := ic4) h s4 t4 sc4 ec4
      rw [show ic4 = x5.toInt.toNat by omega] at e1
      exact ⟨g, h, by rw [e1, uR]⟩
    · obtain ⟨g, h⟩ := rRo_of (k := 88) (f := 19) hH b0 d0 s5 t5 b16 d16 rfl
      have e1 := rRo_c (i := ic5) h s5 t5 sc5 ec5
      rw [show ic5 = x5.toInt.toNat by omega] at e1
      exact ⟨g, h, by rw [e1, uP]⟩)
  exact ⟨p, fun _ => rfl, ⟨(fun q h => by cases h), fun q h => (by cases h), (fun f h => by cases h), (aAllc ⟨_, rfl, (rF_b (r := 451) (by decide) rfl).mpr q0⟩ (fun f h => by cases h))⟩, [], List.mem_cons_self, fun f h => (by cases h)⟩
theorem rw_rvPF {K : Nat → Nat} {n : Nat} {JX : (Nat → jcell) → Prop} : aGho (rF K n) fa_T K n JX ag_rvPF := by
  refine aGho_of ⟨rfl, rfl⟩ ?_
  intro p σ ρ hH hX hA hM0
  have hG := aAG_of hA.1 (fun i e v he hv => (hA.2 i e v he hv).1)
  clear hA
  obtain ⟨v0, v1, v2, v3, rfl, g0, g1, g2, g3⟩ := rA_4 hG
  clear hG
  obtain ⟨x0, rfl, b0, d0⟩ := rG_ref (by decide) g0
  obtain ⟨x1, rfl, b1, d1⟩ := aG_int g1
  dsimp only at b1 d1
  obtain ⟨x2, rfl, b2, d2⟩ := aG_int g2
  dsimp only at b2 d2
  obtain ⟨x3, rfl, b3, d3⟩ := aG_int g3
  dsimp only at b3 d3
  obtain ⟨m1, m2, m3, m4⟩ := hM0
  obtain ⟨M, hM⟩ := rMe_ex hH b0 d0
  obtain ⟨a0, c0, fs0, w0, e1, s0, t0, e4⟩ := m1 (0, 3, 1) (List.mem_of_getElem? (i := 0) rfl)
  obtain rfl : x0 = a0 := Sum.inl.inj (Option.some.inj (Sum.inr.inj (Sum.inr.inj (Option.some.inj (show some (rR x0) = some _ from e1)))))
  obtain rfl : rI x1 = w0 := Option.some.inj (show some (rI x1) = some w0 from e4)
  clear e1 e4
  obtain ⟨a1, c1, fs1, w1, e1, s1, t1, e4⟩ := m1 (0, 4, 2) (List.mem_of_getElem? (i := 1) rfl)
  obtain rfl : x0 = a1 := Sum.inl.inj (Option.some.inj (Sum.inr.inj (Sum.inr.inj (Option.some.inj (show some (rR x0) = some _ from e1)))))
  obtain rfl : rI x2 = w1 := Option.some.inj (show some (rI x2) = some w1 from e4)
  clear e1 e4
  obtain ⟨a2, c2, fs2, w2, e1, s2, t2, e4⟩ := m1 (0, 5, 3) (List.mem_of_getElem? (i := 2) rfl)
  obtain rfl : x0 = a2 := Sum.inl.inj (Option.some.inj (Sum.inr.inj (Sum.inr.inj (Option.some.inj (show some (rR x0) = some _ from e1)))))
  obtain rfl : rI x3 = w2 := Option.some.inj (show some (rI x3) = some w2 from e4)
  clear e1 e4
  have f0 : rB K n p 22 [rR x0] σ := by
    obtain ⟨w, e6, e7⟩ := m4 (353, [0]) (List.mem_of_getElem? (i := 0) rfl)
    obtain rfl : [rR x0] = w := Option.some.inj (show some [rR x0] = some w from e6)
    exact (rF_b (r := 353) (by decide) rfl).mp e7
  obtain ⟨hp, hR⟩ := ro_22.mp f0
  obtain rfl := rMg_u hM hR.1
  have uS : p.1.2.1 = x1.toInt := rRX_f hR.2.1 s0 t0
  have uR : p.1.2.2.1 = x2.toInt := rRX_f hR.2.2.1 s1 t1
  have uP : p.1.2.2.2 = x3.toInt := rRX_f hR.2.2.2 s2 t2
  clear m1 m2 m3 m4
  have q0 : rB K n p 67 [rI x1] σ := ro_67.mpr (by
    exact uS.symm)
  have q1 : rB K n p 68 [rI x2] σ := ro_68.mpr (by
    exact uR.symm)
  have q2 : rB K n p 69 [rI x3] σ := ro_69.mpr (by
    exact uP.symm)
  exact ⟨p, fun _ => rfl, ⟨(fun q h => by cases h), fun q h => (by cases h), (fun f h => by cases h), (aAllc ⟨_, rfl, (rF_b (r := 1073) (by decide) rfl).mpr q0⟩ (aAllc ⟨_, rfl, (rF_b (r := 1089) (by decide) rfl).mpr q1⟩ (aAllc ⟨_, rfl, (rF_b (r := 1105) (by decide) rfl).mpr q2⟩ (fun f h => by cases h))))⟩, [], List.mem_cons_self, fun f h => (by cases h)⟩
theorem rw_rvS1 {K : Nat → Nat} {n : Nat} {JX : (Nat → jcell) → Prop} : aGho (rF K n) fa_T K n JX ag_rvS1 := by
  refine aGho_of ⟨rfl, rfl⟩ ?_
  intro p σ ρ hH hX hA hM0
  have hG := aAG_of hA.1 (fun i e v he hv => (hA.2 i e v he hv).1)
  clear hA
  obtain ⟨v0, v1, v2, v3, v4, rfl, g0, g1, g2, g3, g4⟩ := rA_5 hG
  clear hG
  obtain ⟨x0, rfl, b0, d0⟩ := rG_ref (by decide) g0
  obtain ⟨x1, rfl, b1, d1⟩ := rG_ref (by decide) g1
  obtain ⟨x2, rfl, b2, d2⟩ := aG_int g2
  dsimp only at b2 d2
  obtain ⟨x3, rfl, b3, d3⟩ := aG_int g3
  dsimp only at b3 d3
  obtain ⟨x4, rfl, b4, d4⟩ := aG_int g4
  dsimp only at b4 d4
  obtain ⟨m1, m2, m3, m4⟩ := hM0
  obtain ⟨M, hM⟩ := rMe_ex hH b0 d0
  obtain ⟨a0, c0, fs0, w0, e1, s0, t0, e4⟩ := m1 (0, 2, 1) (List.mem_of_getElem? (i := 0) rfl)
  obtain rfl : x0 = a0 := Sum.inl.inj (Option.some.inj (Sum.inr.inj (Sum.inr.inj (Option.some.inj (show some (rR x0) = some _ from e1)))))
  obtain rfl : rR x1 = w0 := Option.some.inj (show some (rR x1) = some w0 from e4)
  clear e1 e4
  have f0 : rB K n p 22 [rR x0] σ := by
    obtain ⟨w, e6, e7⟩ := m4 (353, [0]) (List.mem_of_getElem? (i := 0) rfl)
    obtain rfl : [rR x0] = w := Option.some.inj (show some [rR x0] = some w from e6)
    exact (rF_b (r := 353) (by decide) rfl).mp e7
  obtain ⟨hp, hR⟩ := ro_22.mp f0
  obtain rfl := rMg_u hM hR.1
  have f1 : rB K n p 64 [rI x2, rI x3] σ := by
    obtain ⟨w, e6, e7⟩ := m4 (1026, [2, 3]) (List.mem_of_getElem? (i := 1) rfl)
    obtain rfl : [rI x2, rI x3] = w := Option.some.inj (show some [rI x2, rI x3] = some w from e6)
    exact (rF_b (r := 1026) (by decide) rfl).mp e7
  have f1 := ro_64.mp f1
  clear m1 m2 m3 m4
  have q0 : rB K n p 50 [rR x0, rI x2] (jup σ x1 (jsto (σ x1) x3.toNatClampNeg x4)) := ro_50.mpr ⟨_, rMg_up hM s0 t0 b3 d3, by
    refine ⟨hp, ?_⟩
    unfold rM1
    rw [← f1, show x4.toInt = 0 by omega]⟩
  exact ⟨p, fun _ => rfl, ⟨(fun q h => by cases h), fun q h => (by cases h), (fun f h => by cases h), (aAllc ⟨_, rfl, rF_p (r := 802) (by decide) (by decide) q0⟩ (fun f h => by cases h))⟩, [], List.mem_cons_self, fun f h => (by cases h)⟩
theorem rw_rvS2 {K : Nat → Nat} {n : Nat} {JX : (Nat → jcell) → Prop} : aGho (rF K n) fa_T K n JX ag_rvS2 := by
  refine aGho_of ⟨rfl, rfl⟩ ?_
  intro p σ ρ hH hX hA hM0
  have hG := aAG_of hA.1 (fun i e v he hv => (hA.2 i e v he hv).1)
  clear hA
  obtain ⟨v0, v1, v2, v3, v4, v5, v6, rfl, g0, g1, g2, g3, g4, g5, g6⟩ := rA_7 hG
  clear hG
  obtain ⟨x0, rfl, b0, d0⟩ := rG_ref (by decide) g0
  obtain ⟨x1, rfl, b1, d1⟩ := rG_ref (by decide) g1
  obtain ⟨x2, rfl, b2, d2⟩ := aG_int g2
  dsimp only at b2 d2
  obtain ⟨x3, rfl, b3, d3⟩ := aG_int g3
  dsimp only at b3 d3
  obtain ⟨x4, rfl, b4, d4⟩ := aG_int g4
  dsimp only at b4 d4
  obtain ⟨x5, rfl, b5, d5⟩ := aG_int g5
  dsimp only at b5 d5
  obtain ⟨x6, rfl, b6, d6⟩ := aG_int g6
  dsimp only at b6 d6
  obtain ⟨m1, m2, m3, m4⟩ := hM0
  obtain ⟨M, hM⟩ := rMe_ex hH b0 d0
  obtain ⟨a0, c0, fs0, w0, e1, s0, t0, e4⟩ := m1 (0, 2, 1) (List.mem_of_getElem? (i := 0) rfl)
  obtain rfl : x0 = a0 := Sum.inl.inj (Option.some.inj (Sum.inr.inj (Sum.inr.inj (Option.some.inj (show some (rR x0) = some _ from e1)))))
  obtain rfl : rR x1 = w0 := Option.some.inj (show some (rR x1) = some w0 from e4)
  clear e1 e4
  have f0 : rB K n p 50 [rR x0, rI x2] σ := by
    obtain ⟨w, e6, e7⟩ := m4 (802, [0, 2]) (List.mem_of_getElem? (i := 0) rfl)
    obtain rfl : [rR x0, rI x2] = w := Option.some.inj (show some [rR x0, rI x2] = some w from e6)
    exact (rF_b (r := 802) (by decide) rfl).mp e7
  obtain ⟨M9, h9, f0⟩ := ro_50.mp f0
  obtain rfl := rMg_u hM h9
  clear h9
  have f1 : rB K n p 160 [rI x2, rI x3, rI x4, rI x5] σ := by
    obtain ⟨w, e6, e7⟩ := m4 (2564, [2, 3, 4, 5]) (List.mem_of_getElem? (i := 1) rfl)
    obtain rfl : [rI x2, rI x3, rI x4, rI x5] = w := Option.some.inj (show some [rI x2, rI x3, rI x4, rI x5] = some w from e6)
    exact (rF_b (r := 2564) (by decide) rfl).mp e7
  have f1 := ro_160.mp f1
  clear m1 m2 m3 m4
  have q0 : rB K n p 51 [rR x0, rI x2] (jup σ x1 (jsto (σ x1) x3.toNatClampNeg x6)) := ro_51.mpr ⟨_, rMg_up hM s0 t0 b3 d3, by
    refine ⟨f0.1, ?_⟩
    unfold rM2
    rw [f0.2, ← f1.1, show x6.toInt = 0 by omega]⟩
  exact ⟨p, fun _ => rfl, ⟨(fun q h => by cases h), fun q h => (by cases h), (fun f h => by cases h), (aAllc ⟨_, rfl, rF_p (r := 818) (by decide) (by decide) q0⟩ (fun f h => by cases h))⟩, [], List.mem_cons_self, fun f h => (by cases h)⟩
theorem rw_rvS3a {K : Nat → Nat} {n : Nat} {JX : (Nat → jcell) → Prop} : aGho (rF K n) fa_T K n JX ag_rvS3a := by
  refine aGho_of ⟨rfl, rfl⟩ ?_
  intro p σ ρ hH hX hA hM0
  have hG := aAG_of hA.1 (fun i e v he hv => (hA.2 i e v he hv).1)
  clear hA
  obtain ⟨v0, v1, v2, v3, v4, v5, v6, v7, rfl, g0, g1, g2, g3, g4, g5, g6, g7⟩ := rA_8 hG
  clear hG
  obtain ⟨x0, rfl, b0, d0⟩ := rG_ref (by decide) g0
  obtain ⟨x1, rfl, b1, d1⟩ := rG_ref (by decide) g1
  obtain ⟨x2, rfl, b2, d2⟩ := aG_int g2
  dsimp only at b2 d2
  obtain ⟨x3, rfl, b3, d3⟩ := aG_int g3
  dsimp only at b3 d3
  obtain ⟨x4, rfl, b4, d4⟩ := aG_int g4
  dsimp only at b4 d4
  obtain ⟨x5, rfl, b5, d5⟩ := aG_int g5
  dsimp only at b5 d5
  obtain ⟨x6, rfl, b6, d6⟩ := aG_int g6
  dsimp only at b6 d6
  obtain ⟨x7, rfl, b7, d7⟩ := aG_int g7
  dsimp only at b7 d7
  obtain ⟨m1, m2, m3, m4⟩ := hM0
  obtain ⟨M, hM⟩ := rMe_ex hH b0 d0
  obtain ⟨a0, c0, fs0, w0, e1, s0, t0, e4⟩ := m1 (0, 2, 1) (List.mem_of_getElem? (i := 0) rfl)
  obtain rfl : x0 = a0 := Sum.inl.inj (Option.some.inj (Sum.inr.inj (Sum.inr.inj (Option.some.inj (show some (rR x0) = some _ from e1)))))
  obtain rfl : rR x1 = w0 := Option.some.inj (show some (rR x1) = some w0 from e4)
  clear e1 e4
  have l0 : 0 ≤ (1 * x6.toInt + (-1 * x5.toInt + (-8 * x7.toInt + 0))) + 0 := by
    obtain ⟨z, e6, e7⟩ := m3 ([(6, 1), (5, -1), (7, -8)], 0) (List.mem_of_getElem? (i := 0) rfl)
    obtain rfl : (1 * x6.toInt + (-1 * x5.toInt + (-8 * x7.toInt + 0))) = z := Option.some.inj (show some (1 * x6.toInt + (-1 * x5.toInt + (-8 * x7.toInt + 0))) = some z from e6)
    exact e7
  have l1 : 0 ≤ (-1 * x6.toInt + (1 * x5.toInt + (8 * x7.toInt + 0))) + 0 := by
    obtain ⟨z, e6, e7⟩ := m3 ([(6, -1), (5, 1), (7, 8)], 0) (List.mem_of_getElem? (i := 1) rfl)
    obtain rfl : (-1 * x6.toInt + (1 * x5.toInt + (8 * x7.toInt + 0))) = z := Option.some.inj (show some (-1 * x6.toInt + (1 * x5.toInt + (8 * x7.toInt + 0))) = some z from e6)
    exact e7
  have f0 : rB K n p 51 [rR x0, rI x2] σ := by
    obtain ⟨w, e6, e7⟩ := m4 (818, [0, 2]) (List.mem_of_getElem? (i := 0) rfl)
    obtain rfl : [rR x0, rI x2] = w := Option.some.inj (show some [rR x0, rI x2] = some w from e6)
    exact (rF_b (r := 818) (by decide) rfl).mp e7
  obtain ⟨M9, h9, f0⟩ := ro_51.mp f0
  obtain rfl := rMg_u hM h9
  clear h9
  have f1 : rB K n p 160 [rI x2, rI x3, rI x4, rI x5] σ := by
    obtain ⟨w, e6, e7⟩ := m4 (2564, [2, 3, 4, 5]) (List.mem_of_getElem? (i := 1) rfl)
    obtain rfl : [rI x2, rI x3, rI x4, rI x5] = w := Option.some.inj (show some [rI x2, rI x3, rI x4, rI x5] = some w from e6)
    exact (rF_b (r := 2564) (by decide) rfl).mp e7
  have f1 := ro_160.mp f1
  have f2 : rB K n p 67 [rI x7] σ := by
    obtain ⟨w, e6, e7⟩ := m4 (1073, [7]) (List.mem_of_getElem? (i := 2) rfl)
    obtain rfl : [rI x7] = w := Option.some.inj (show some [rI x7] = some w from e6)
    exact (rF_b (r := 1073) (by decide) rfl).mp e7
  have f2 := ro_67.mp f2
  clear m1 m2 m3 m4
  have q0 : rB K n p 52 [rR x0, rI x2] (jup σ x1 (jsto (σ x1) x4.toNatClampNeg x6)) := ro_52.mpr ⟨_, rMg_up hM s0 t0 b4 d4, by
    refine ⟨f0.1, ?_⟩
    unfold rM3
    rw [f0.2, ← f1.2.1, ← f1.2.2, if_pos (by omega), show x6.toInt = x5.toInt + 8 * p.1.2.1 by omega]⟩
  exact ⟨p, fun _ => rfl, ⟨(fun q h => by cases h), fun q h => (by cases h), (fun f h => by cases h), (aAllc ⟨_, rfl, rF_p (r := 834) (by decide) (by decide) q0⟩ (fun f h => by cases h))⟩, [], List.mem_cons_self, fun f h => (by cases h)⟩
theorem rw_rvS3b {K : Nat → Nat} {n : Nat} {JX : (Nat → jcell) → Prop} : aGho (rF K n) fa_T K n JX ag_rvS3b := by
  refine aGho_of ⟨rfl, rfl⟩ ?_
  intro p σ ρ hH hX hA hM0
  have hG := aAG_of hA.1 (fun i e v he hv => (hA.2 i e v he hv).1)
  clear hA
  obtain ⟨v0, v1, v2, v3, v4, v5, v6, rfl, g0, g1, g2, g3, g4, g5, g6⟩ := rA_7 hG
  clear hG
  obtain ⟨x0, rfl, b0, d0⟩ := rG_ref (by decide) g0
  obtain ⟨x1, rfl, b1, d1⟩ := rG_ref (by decide) g1
  obtain ⟨x2, rfl, b2, d2⟩ := aG_int g2
  dsimp only at b2 d2
  obtain ⟨x3, rfl, b3, d3⟩ := aG_int g3
  dsimp only at b3 d3
  obtain ⟨x4, rfl, b4, d4⟩ := aG_int g4
  dsimp only at b4 d4
  obtain ⟨x5, rfl, b5, d5⟩ := aG_int g5
  dsimp only at b5 d5
  obtain ⟨x6, rfl, b6, d6⟩ := aG_int g6
  dsimp only at b6 d6
  obtain ⟨m1, m2, m3, m4⟩ := hM0
  obtain ⟨M, hM⟩ := rMe_ex hH b0 d0
  obtain ⟨a0, c0, fs0, w0, e1, s0, t0, e4⟩ := m1 (0, 2, 1) (List.mem_of_getElem? (i := 0) rfl)
  obtain rfl : x0 = a0 := Sum.inl.inj (Option.some.inj (Sum.inr.inj (Sum.inr.inj (Option.some.inj (show some (rR x0) = some _ from e1)))))
  obtain rfl : rR x1 = w0 := Option.some.inj (show some (rR x1) = some w0 from e4)
  clear e1 e4
  have f0 : rB K n p 51 [rR x0, rI x2] σ := by
    obtain ⟨w, e6, e7⟩ := m4 (818, [0, 2]) (List.mem_of_getElem? (i := 0) rfl)
    obtain rfl : [rR x0, rI x2] = w := Option.some.inj (show some [rR x0, rI x2] = some w from e6)
    exact (rF_b (r := 818) (by decide) rfl).mp e7
  obtain ⟨M9, h9, f0⟩ := ro_51.mp f0
  obtain rfl := rMg_u hM h9
  clear h9
  have f1 : rB K n p 160 [rI x2, rI x3, rI x4, rI x5] σ := by
    obtain ⟨w, e6, e7⟩ := m4 (2564, [2, 3, 4, 5]) (List.mem_of_getElem? (i := 1) rfl)
    obtain rfl : [rI x2, rI x3, rI x4, rI x5] = w := Option.some.inj (show some [rI x2, rI x3, rI x4, rI x5] = some w from e6)
    exact (rF_b (r := 2564) (by decide) rfl).mp e7
  have f1 := ro_160.mp f1
  have f2 : rB K n p 65 [rI x2, rI x6] σ := by
    obtain ⟨w, e6, e7⟩ := m4 (1042, [2, 6]) (List.mem_of_getElem? (i := 2) rfl)
    obtain rfl : [rI x2, rI x6] = w := Option.some.inj (show some [rI x2, rI x6] = some w from e6)
    exact (rF_b (r := 1042) (by decide) rfl).mp e7
  have f2 := ro_65.mp f2
  clear m1 m2 m3 m4
  have q0 : rB K n p 52 [rR x0, rI x2] (jup σ x1 (jsto (σ x1) x4.toNatClampNeg x6)) := ro_52.mpr ⟨_, rMg_up hM s0 t0 b4 d4, by
    refine ⟨f0.1, ?_⟩
    unfold rM3
    rw [f0.2, ← f1.2.1, ← f1.2.2, if_neg (by omega), ← f2]⟩
  exact ⟨p, fun _ => rfl, ⟨(fun q h => by cases h), fun q h => (by cases h), (fun f h => by cases h), (aAllc ⟨_, rfl, rF_p (r := 834) (by decide) (by decide) q0⟩ (fun f h => by cases h))⟩, [], List.mem_cons_self, fun f h => (by cases h)⟩
theorem rw_rvCASu {K : Nat → Nat} {n : Nat} {JX : (Nat → jcell) → Prop} : aGho (rF K n) fa_T K n JX ag_rvCASu := by
  refine aGho_of ⟨rfl, rfl⟩ ?_
  intro p σ ρ hH hX hA hM0
  have hG := aAG_of hA.1 (fun i e v he hv => (hA.2 i e v he hv).1)
  clear hA
  obtain ⟨v0, v1, v2, v3, v4, v5, v6, rfl, g0, g1, g2, g3, g4, g5, g6⟩ := rA_7 hG
  clear hG
  obtain ⟨x0, rfl, b0, d0⟩ := rG_ref (by decide) g0
  obtain ⟨x1, rfl, b1, d1⟩ := aG_int g1
  dsimp only at b1 d1
  obtain ⟨x2, rfl, b2, d2⟩ := aG_int g2
  dsimp only at b2 d2
  obtain ⟨x3, rfl, b3, d3⟩ := aG_int g3
  dsimp only at b3 d3
  obtain ⟨x4, rfl, b4, d4⟩ := aG_int g4
  dsimp only at b4 d4
  obtain ⟨x5, rfl, b5, d5⟩ := aG_int g5
  dsimp only at b5 d5
  obtain ⟨x6, rfl, b6, d6⟩ := aG_int g6
  dsimp only at b6 d6
  obtain ⟨m1, m2, m3, m4⟩ := hM0
  obtain ⟨M, hM⟩ := rMe_ex hH b0 d0
  have l0 : 0 ≤ (1 * x3.toInt + (-1 * x2.toInt + 0)) + -2 := by
    obtain ⟨z, e6, e7⟩ := m3 ([(3, 1), (2, -1)], -2) (List.mem_of_getElem? (i := 0) rfl)
    obtain rfl : (1 * x3.toInt + (-1 * x2.toInt + 0)) = z := Option.some.inj (show some (1 * x3.toInt + (-1 * x2.toInt + 0)) = some z from e6)
    exact e7
  have l1 : 0 ≤ (-1 * x3.toInt + (1 * x2.toInt + 0)) + 2 := by
    obtain ⟨z, e6, e7⟩ := m3 ([(3, -1), (2, 1)], 2) (List.mem_of_getElem? (i := 1) rfl)
    obtain rfl : (-1 * x3.toInt + (1 * x2.toInt + 0)) = z := Option.some.inj (show some (-1 * x3.toInt + (1 * x2.toInt + 0)) = some z from e6)
    exact e7
  have f0 : rB K n p 25 [rI x1] σ := by
    obtain ⟨w, e6, e7⟩ := m4 (401, [1]) (List.mem_of_getElem? (i := 0) rfl)
    obtain rfl : [rI x1] = w := Option.some.inj (show some [rI x1] = some w from e6)
    exact (rF_b (r := 401) (by decide) rfl).mp e7
  have f0 := ro_25.mp f0
  have f1 : rB K n p 24 [] σ := by
    obtain ⟨w, e6, e7⟩ := m4 (384, []) (List.mem_of_getElem? (i := 1) rfl)
    obtain rfl : [] = w := Option.some.inj (show some [] = some w from e6)
    exact (rF_b (r := 384) (by decide) rfl).mp e7
  have f1 := ro_24.mp f1
  have f2 : rB K n p 160 [rI x1, rI x2, rI x3, rI x4] σ := by
    obtain ⟨w, e6, e7⟩ := m4 (2564, [1, 2, 3, 4]) (List.mem_of_getElem? (i := 2) rfl)
    obtain rfl : [rI x1, rI x2, rI x3, rI x4] = w := Option.some.inj (show some [rI x1, rI x2, rI x3, rI x4] = some w from e6)
    exact (rF_b (r := 2564) (by decide) rfl).mp e7
  have f2 := ro_160.mp f2
  have f3 : rB K n p 65 [rI x1, rI x5] σ := by
    obtain ⟨w, e6, e7⟩ := m4 (1042, [1, 5]) (List.mem_of_getElem? (i := 3) rfl)
    obtain rfl : [rI x1, rI x5] = w := Option.some.inj (show some [rI x1, rI x5] = some w from e6)
    exact (rF_b (r := 1042) (by decide) rfl).mp e7
  have f3 := ro_65.mp f3
  have f4 : rB K n p 147 [rI x5, rI x6] σ := by
    obtain ⟨w, e6, e7⟩ := m4 (2354, [5, 6]) (List.mem_of_getElem? (i := 4) rfl)
    obtain rfl : [rI x5, rI x6] = w := Option.some.inj (show some [rI x5, rI x6] = some w from e6)
    exact (rF_b (r := 2354) (by decide) rfl).mp e7
  have f4 := ro_147.mp f4
  clear m1 m2 m3 m4
  have q0 : rB K n p 161 [rI x2, rI x3, rI x4] σ := ro_161.mpr (by
    have hc : rIsC p.1 x1.toInt := by
      unfold rIsC
      rw [← f3, ← f2.1, ← f2.2.1]
      omega
    have h := rLm_ca ⟨f1.1, f1.2.1⟩ f0 hc
    have h1 := f1.1
    have h2 := f1.2.1
    rw [← f2.1, ← f2.2.1, ← f2.2.2] at h
    omega)
  have q1 : rB K n p 169 [rI x2, rI x3] σ := ro_169.mpr (by
    have hc : rIsC p.1 x1.toInt := by
      unfold rIsC
      rw [← f3, ← f2.1, ← f2.2.1]
      omega
    have h := rLm_ca ⟨f1.1, f1.2.1⟩ f0 hc
    have h1 := f1.1
    have h2 := f1.2.1
    rw [← f2.1, ← f2.2.1, ← f2.2.2] at h
    omega)
  exact ⟨p, fun _ => rfl, ⟨(fun q h => by cases h), fun q h => (by cases h), (fun f h => by cases h), (aAllc ⟨_, rfl, (rF_b (r := 2579) (by decide) rfl).mpr q0⟩ (aAllc ⟨_, rfl, (rF_b (r := 2706) (by decide) rfl).mpr q1⟩ (fun f h => by cases h)))⟩, [], List.mem_cons_self, fun f h => (by cases h)⟩
theorem rw_rvCASd {K : Nat → Nat} {n : Nat} {JX : (Nat → jcell) → Prop} : aGho (rF K n) fa_T K n JX ag_rvCASd := by
  refine aGho_of ⟨rfl, rfl⟩ ?_
  intro p σ ρ hH hX hA hM0
  have hG := aAG_of hA.1 (fun i e v he hv => (hA.2 i e v he hv).1)
  clear hA
  obtain ⟨v0, v1, v2, v3, v4, v5, v6, rfl, g0, g1, g2, g3, g4, g5, g6⟩ := rA_7 hG
  clear hG
  obtain ⟨x0, rfl, b0, d0⟩ := rG_ref (by decide) g0
  obtain ⟨x1, rfl, b1, d1⟩ := aG_int g1
  dsimp only at b1 d1
  obtain ⟨x2, rfl, b2, d2⟩ := aG_int g2
  dsimp only at b2 d2
  obtain ⟨x3, rfl, b3, d3⟩ := aG_int g3
  dsimp only at b3 d3
  obtain ⟨x4, rfl, b4, d4⟩ := aG_int g4
  dsimp only at b4 d4
  obtain ⟨x5, rfl, b5, d5⟩ := aG_int g5
  dsimp only at b5 d5
  obtain ⟨x6, rfl, b6, d6⟩ := aG_int g6
  dsimp only at b6 d6
  obtain ⟨m1, m2, m3, m4⟩ := hM0
  obtain ⟨M, hM⟩ := rMe_ex hH b0 d0
  have l0 : 0 ≤ (1 * x3.toInt + (-1 * x2.toInt + 0)) + 2 := by
    obtain ⟨z, e6, e7⟩ := m3 ([(3, 1), (2, -1)], 2) (List.mem_of_getElem? (i := 0) rfl)
    obtain rfl : (1 * x3.toInt + (-1 * x2.toInt + 0)) = z := Option.some.inj (show some (1 * x3.toInt + (-1 * x2.toInt + 0)) = some z from e6)
    exact e7
  have l1 : 0 ≤ (-1 * x3.toInt + (1 * x2.toInt + 0)) + -2 := by
    obtain ⟨z, e6, e7⟩ := m3 ([(3, -1), (2, 1)], -2) (List.mem_of_getElem? (i := 1) rfl)
    obtain rfl : (-1 * x3.toInt + (1 * x2.toInt + 0)) = z := Option.some.inj (show some (-1 * x3.toInt + (1 * x2.toInt + 0)) = some z from e6)
    exact e7
  have f0 : rB K n p 25 [rI x1] σ := by
    obtain ⟨w, e6, e7⟩ := m4 (401, [1]) (List.mem_of_getElem? (i := 0) rfl)
    obtain rfl : [rI x1] = w := Option.some.inj (show some [rI x1] = some w from e6)
    exact (rF_b (r := 401) (by decide) rfl).mp e7
  have f0 := ro_25.mp f0
  have f1 : rB K n p 24 [] σ := by
    obtain ⟨w, e6, e7⟩ := m4 (384, []) (List.mem_of_getElem? (i := 1) rfl)
    obtain rfl : [] = w := Option.some.inj (show some [] = some w from e6)
    exact (rF_b (r := 384) (by decide) rfl).mp e7
  have f1 := ro_24.mp f1
  have f2 : rB K n p 160 [rI x1, rI x2, rI x3, rI x4] σ := by
    obtain ⟨w, e6, e7⟩ := m4 (2564, [1, 2, 3, 4]) (List.mem_of_getElem? (i := 2) rfl)
    obtain rfl : [rI x1, rI x2, rI x3, rI x4] = w := Option.some.inj (show some [rI x1, rI x2, rI x3, rI x4] = some w from e6)
    exact (rF_b (r := 2564) (by decide) rfl).mp e7
  have f2 := ro_160.mp f2
  have f3 : rB K n p 65 [rI x1, rI x5] σ := by
    obtain ⟨w, e6, e7⟩ := m4 (1042, [1, 5]) (List.mem_of_getElem? (i := 3) rfl)
    obtain rfl : [rI x1, rI x5] = w := Option.some.inj (show some [rI x1, rI x5] = some w from e6)
    exact (rF_b (r := 1042) (by decide) rfl).mp e7
  have f3 := ro_65.mp f3
  have f4 : rB K n p 147 [rI x5, rI x6] σ := by
    obtain ⟨w, e6, e7⟩ := m4 (2354, [5, 6]) (List.mem_of_getElem? (i := 4) rfl)
    obtain rfl : [rI x5, rI x6] = w := Option.some.inj (show some [rI x5, rI x6] = some w from e6)
    exact (rF_b (r := 2354) (by decide) rfl).mp e7
  have f4 := ro_147.mp f4
  clear m1 m2 m3 m4
  have q0 : rB K n p 161 [rI x2, rI x3, rI x4] σ := ro_161.mpr (by
    have hc : rIsC p.1 x1.toInt := by
      unfold rIsC
      rw [← f3, ← f2.1, ← f2.2.1]
      omega
    have h := rLm_ca ⟨f1.1, f1.2.1⟩ f0 hc
    have h1 := f1.1
    have h2 := f1.2.1
    rw [← f2.1, ← f2.2.1, ← f2.2.2] at h
    omega)
  have q1 : rB K n p 169 [rI x2, rI x3] σ := ro_169.mpr (by
    have hc : rIsC p.1 x1.toInt := by
      unfold rIsC
      rw [← f3, ← f2.1, ← f2.2.1]
      omega
    have h := rLm_ca ⟨f1.1, f1.2.1⟩ f0 hc
    have h1 := f1.1
    have h2 := f1.2.1
    rw [← f2.1, ← f2.2.1, ← f2.2.2] at h
    omega)
  exact ⟨p, fun _ => rfl, ⟨(fun q h => by cases h), fun q h => (by cases h), (fun f h => by cases h), (aAllc ⟨_, rfl, (rF_b (r := 2579) (by decide) rfl).mpr q0⟩ (aAllc ⟨_, rfl, (rF_b (r := 2706) (by decide) rfl).mpr q1⟩ (fun f h => by cases h)))⟩, [], List.mem_cons_self, fun f h => (by cases h)⟩
theorem rw_rvS3k {K : Nat → Nat} {n : Nat} {JX : (Nat → jcell) → Prop} : aGho (rF K n) fa_T K n JX ag_rvS3k := by
  refine aGho_of ⟨rfl, rfl⟩ ?_
  intro p σ ρ hH hX hA hM0
  have hG := aAG_of hA.1 (fun i e v he hv => (hA.2 i e v he hv).1)
  clear hA
  obtain ⟨v0, v1, v2, v3, v4, rfl, g0, g1, g2, g3, g4⟩ := rA_5 hG
  clear hG
  obtain ⟨x0, rfl, b0, d0⟩ := rG_ref (by decide) g0
  obtain ⟨x1, rfl, b1, d1⟩ := aG_int g1
  dsimp only at b1 d1
  obtain ⟨x2, rfl, b2, d2⟩ := aG_int g2
  dsimp only at b2 d2
  obtain ⟨x3, rfl, b3, d3⟩ := aG_int g3
  dsimp only at b3 d3
  obtain ⟨x4, rfl, b4, d4⟩ := aG_int g4
  dsimp only at b4 d4
  obtain ⟨m1, m2, m3, m4⟩ := hM0
  obtain ⟨M, hM⟩ := rMe_ex hH b0 d0
  have f0 : rB K n p 52 [rR x0, rI x1] σ := by
    obtain ⟨w, e6, e7⟩ := m4 (834, [0, 1]) (List.mem_of_getElem? (i := 0) rfl)
    obtain rfl : [rR x0, rI x1] = w := Option.some.inj (show some [rR x0, rI x1] = some w from e6)
    exact (rF_b (r := 834) (by decide) rfl).mp e7
  obtain ⟨M9, h9, f0⟩ := ro_52.mp f0
  obtain rfl := rMg_u hM h9
  clear h9
  have f1 : rB K n p 160 [rI x1, rI x2, rI x3, rI x4] σ := by
    obtain ⟨w, e6, e7⟩ := m4 (2564, [1, 2, 3, 4]) (List.mem_of_getElem? (i := 1) rfl)
    obtain rfl : [rI x1, rI x2, rI x3, rI x4] = w := Option.some.inj (show some [rI x1, rI x2, rI x3, rI x4] = some w from e6)
    exact (rF_b (r := 2564) (by decide) rfl).mp e7
  have f1 := ro_160.mp f1
  have f2 : rB K n p 161 [rI x2, rI x3, rI x4] σ := by
    obtain ⟨w, e6, e7⟩ := m4 (2579, [2, 3, 4]) (List.mem_of_getElem? (i := 2) rfl)
    obtain rfl : [rI x2, rI x3, rI x4] = w := Option.some.inj (show some [rI x2, rI x3, rI x4] = some w from e6)
    exact (rF_b (r := 2579) (by decide) rfl).mp e7
  have f2 := ro_161.mp f2
  clear m1 m2 m3 m4
  have q0 : rB K n p 54 [rR x0, rI x2, rI x3] σ := ro_54.mpr ⟨_, hM, by
    have e : x2.toInt + 64 * x3.toInt = x1.toInt := by
      have h1 := f1.1
      have h2 := f1.2.1
      have h3 := f1.2.2
      unfold rFr at h1
      unfold rTo at h2
      unfold rBc at h3
      omega
    refine ⟨f0.1, ?_⟩
    rw [e]
    exact f0.2⟩
  exact ⟨p, fun _ => rfl, ⟨(fun q h => by cases h), fun q h => (by cases h), (fun f h => by cases h), (aAllc ⟨_, rfl, (rF_b (r := 867) (by decide) rfl).mpr q0⟩ (fun f h => by cases h))⟩, [], List.mem_cons_self, fun f h => (by cases h)⟩
theorem rw_rvS4a {K : Nat → Nat} {n : Nat} {JX : (Nat → jcell) → Prop} : aGho (rF K n) fa_T K n JX ag_rvS4a := by
  refine aGho_of ⟨rfl, rfl⟩ ?_
  intro p σ ρ hH hX hA hM0
  have hG := aAG_of hA.1 (fun i e v he hv => (hA.2 i e v he hv).1)
  clear hA
  obtain ⟨v0, v1, v2, v3, v4, v5, v6, rfl, g0, g1, g2, g3, g4, g5, g6⟩ := rA_7 hG
  clear hG
  obtain ⟨x0, rfl, b0, d0⟩ := rG_ref (by decide) g0
  obtain ⟨x1, rfl, b1, d1⟩ := aG_int g1
  dsimp only at b1 d1
  obtain ⟨x2, rfl, b2, d2⟩ := aG_int g2
  dsimp only at b2 d2
  obtain ⟨x3, rfl, b3, d3⟩ := aG_int g3
  dsimp only at b3 d3
  obtain ⟨x4, rfl, b4, d4⟩ := aG_int g4
  dsimp only at b4 d4
  obtain ⟨x5, rfl, b5, d5⟩ := aG_int g5
  dsimp only at b5 d5
  obtain ⟨x6, rfl, b6, d6⟩ := aG_int g6
  dsimp only at b6 d6
  obtain ⟨m1, m2, m3, m4⟩ := hM0
  obtain ⟨M, hM⟩ := rMe_ex hH b0 d0
  have f0 : rB K n p 56 [rR x0, rI x2, rI x3] σ := by
    obtain ⟨w, e6, e7⟩ := m4 (899, [0, 2, 3]) (List.mem_of_getElem? (i := 0) rfl)
    obtain rfl : [rR x0, rI x2, rI x3] = w := Option.some.inj (show some [rR x0, rI x2, rI x3] = some w from e6)
    exact (rF_b (r := 899) (by decide) rfl).mp e7
  obtain ⟨M9, h9, f0⟩ := ro_56.mp f0
  obtain rfl := rMg_u hM h9
  clear h9
  have f1 : rB K n p 160 [rI x1, rI x2, rI x3, rI x4] σ := by
    obtain ⟨w, e6, e7⟩ := m4 (2564, [1, 2, 3, 4]) (List.mem_of_getElem? (i := 1) rfl)
    obtain rfl : [rI x1, rI x2, rI x3, rI x4] = w := Option.some.inj (show some [rI x1, rI x2, rI x3, rI x4] = some w from e6)
    exact (rF_b (r := 2564) (by decide) rfl).mp e7
  have f1 := ro_160.mp f1
  have f2 : rB K n p 161 [rI x2, rI x3, rI x4] σ := by
    obtain ⟨w, e6, e7⟩ := m4 (2579, [2, 3, 4]) (List.mem_of_getElem? (i := 2) rfl)
    obtain rfl : [rI x2, rI x3, rI x4] = w := Option.some.inj (show some [rI x2, rI x3, rI x4] = some w from e6)
    exact (rF_b (r := 2579) (by decide) rfl).mp e7
  have f2 := ro_161.mp f2
  have f3 : rB K n p 65 [rI x1, rI x5] σ := by
    obtain ⟨w, e6, e7⟩ := m4 (1042, [1, 5]) (List.mem_of_getElem? (i := 3) rfl)
    obtain rfl : [rI x1, rI x5] = w := Option.some.inj (show some [rI x1, rI x5] = some w from e6)
    exact (rF_b (r := 1042) (by decide) rfl).mp e7
  have f3 := ro_65.mp f3
  have f4 : rB K n p 147 [rI x5, rI x6] σ := by
    obtain ⟨w, e6, e7⟩ := m4 (2354, [5, 6]) (List.mem_of_getElem? (i := 4) rfl)
    obtain rfl : [rI x5, rI x6] = w := Option.some.inj (show some [rI x5, rI x6] = some w from e6)
    exact (rF_b (r := 2354) (by decide) rfl).mp e7
  have f4 := ro_147.mp f4
  clear m1 m2 m3 m4
  have q0 : rB K n p 53 [rR x0, rI x1] σ := ro_53.mpr ⟨_, hM, by
    have e : x2.toInt + 64 * x3.toInt = x1.toInt := by
      have h1 := f1.1
      have h2 := f1.2.1
      have h3 := f1.2.2
      unfold rFr at h1
      unfold rTo at h2
      unfold rBc at h3
      omega
    have hc : rIsC p.1 x1.toInt := by
      unfold rIsC
      rw [← f3, ← f1.1, ← f1.2.1]
      omega
    refine ⟨f0.1, ?_⟩
    rw [rM4_c hc, f0.2, e]⟩
  exact ⟨p, fun _ => rfl, ⟨(fun q h => by cases h), fun q h => (by cases h), (fun f h => by cases h), (aAllc ⟨_, rfl, (rF_b (r := 850) (by decide) rfl).mpr q0⟩ (fun f h => by cases h))⟩, [], List.mem_cons_self, fun f h => (by cases h)⟩
theorem rw_rvS4b0 {K : Nat → Nat} {n : Nat} {JX : (Nat → jcell) → Prop} : aGho (rF K n) fa_T K n JX ag_rvS4b0 := by
  refine aGho_of ⟨rfl, rfl⟩ ?_
  intro p σ ρ hH hX hA hM0
  have hG := aAG_of hA.1 (fun i e v he hv => (hA.2 i e v he hv).1)
  clear hA
  obtain ⟨v0, v1, v2, v3, v4, v5, v6, rfl, g0, g1, g2, g3, g4, g5, g6⟩ := rA_7 hG
  clear hG
  obtain ⟨x0, rfl, b0, d0⟩ := rG_ref (by decide) g0
  obtain ⟨x1, rfl, b1, d1⟩ := aG_int g1
  dsimp only at b1 d1
  obtain ⟨x2, rfl, b2, d2⟩ := aG_int g2
  dsimp only at b2 d2
  obtain ⟨x3, rfl, b3, d3⟩ := aG_int g3
  dsimp only at b3 d3
  obtain ⟨x4, rfl, b4, d4⟩ := aG_int g4
  dsimp only at b4 d4
  obtain ⟨x5, rfl, b5, d5⟩ := aG_int g5
  dsimp only at b5 d5
  obtain ⟨x6, rfl, b6, d6⟩ := aG_int g6
  dsimp only at b6 d6
  obtain ⟨m1, m2, m3, m4⟩ := hM0
  obtain ⟨M, hM⟩ := rMe_ex hH b0 d0
  have f0 : rB K n p 52 [rR x0, rI x1] σ := by
    obtain ⟨w, e6, e7⟩ := m4 (834, [0, 1]) (List.mem_of_getElem? (i := 0) rfl)
    obtain rfl : [rR x0, rI x1] = w := Option.some.inj (show some [rR x0, rI x1] = some w from e6)
    exact (rF_b (r := 834) (by decide) rfl).mp e7
  obtain ⟨M9, h9, f0⟩ := ro_52.mp f0
  obtain rfl := rMg_u hM h9
  clear h9
  have f1 : rB K n p 160 [rI x1, rI x2, rI x3, rI x4] σ := by
    obtain ⟨w, e6, e7⟩ := m4 (2564, [1, 2, 3, 4]) (List.mem_of_getElem? (i := 1) rfl)
    obtain rfl : [rI x1, rI x2, rI x3, rI x4] = w := Option.some.inj (show some [rI x1, rI x2, rI x3, rI x4] = some w from e6)
    exact (rF_b (r := 2564) (by decide) rfl).mp e7
  have f1 := ro_160.mp f1
  have f2 : rB K n p 65 [rI x1, rI x5] σ := by
    obtain ⟨w, e6, e7⟩ := m4 (1042, [1, 5]) (List.mem_of_getElem? (i := 2) rfl)
    obtain rfl : [rI x1, rI x5] = w := Option.some.inj (show some [rI x1, rI x5] = some w from e6)
    exact (rF_b (r := 1042) (by decide) rfl).mp e7
  have f2 := ro_65.mp f2
  have f3 : rB K n p 147 [rI x5, rI x6] σ := by
    obtain ⟨w, e6, e7⟩ := m4 (2354, [5, 6]) (List.mem_of_getElem? (i := 3) rfl)
    obtain rfl : [rI x5, rI x6] = w := Option.some.inj (show some [rI x5, rI x6] = some w from e6)
    exact (rF_b (r := 2354) (by decide) rfl).mp e7
  have f3 := ro_147.mp f3
  clear m1 m2 m3 m4
  have q0 : rB K n p 53 [rR x0, rI x1] σ := ro_53.mpr ⟨_, hM, by
    have hc : ¬ rIsC p.1 x1.toInt := by
      unfold rIsC
      rw [← f2, ← f1.1, ← f1.2.1]
      omega
    refine ⟨f0.1, ?_⟩
    rw [rM4_n hc]
    exact f0.2⟩
  exact ⟨p, fun _ => rfl, ⟨(fun q h => by cases h), fun q h => (by cases h), (fun f h => by cases h), (aAllc ⟨_, rfl, (rF_b (r := 850) (by decide) rfl).mpr q0⟩ (fun f h => by cases h))⟩, [], List.mem_cons_self, fun f h => (by cases h)⟩
theorem rw_rvS4b1 {K : Nat → Nat} {n : Nat} {JX : (Nat → jcell) → Prop} : aGho (rF K n) fa_T K n JX ag_rvS4b1 := by
  refine aGho_of ⟨rfl, rfl⟩ ?_
  intro p σ ρ hH hX hA hM0
  have hG := aAG_of hA.1 (fun i e v he hv => (hA.2 i e v he hv).1)
  clear hA
  obtain ⟨v0, v1, v2, v3, v4, v5, v6, rfl, g0, g1, g2, g3, g4, g5, g6⟩ := rA_7 hG
  clear hG
  obtain ⟨x0, rfl, b0, d0⟩ := rG_ref (by decide) g0
  obtain ⟨x1, rfl, b1, d1⟩ := aG_int g1
  dsimp only at b1 d1
  obtain ⟨x2, rfl, b2, d2⟩ := aG_int g2
  dsimp only at b2 d2
  obtain ⟨x3, rfl, b3, d3⟩ := aG_int g3
  dsimp only at b3 d3
  obtain ⟨x4, rfl, b4, d4⟩ := aG_int g4
  dsimp only at b4 d4
  obtain ⟨x5, rfl, b5, d5⟩ := aG_int g5
  dsimp only at b5 d5
  obtain ⟨x6, rfl, b6, d6⟩ := aG_int g6
  dsimp only at b6 d6
  obtain ⟨m1, m2, m3, m4⟩ := hM0
  obtain ⟨M, hM⟩ := rMe_ex hH b0 d0
  have f0 : rB K n p 52 [rR x0, rI x1] σ := by
    obtain ⟨w, e6, e7⟩ := m4 (834, [0, 1]) (List.mem_of_getElem? (i := 0) rfl)
    obtain rfl : [rR x0, rI x1] = w := Option.some.inj (show some [rR x0, rI x1] = some w from e6)
    exact (rF_b (r := 834) (by decide) rfl).mp e7
  obtain ⟨M9, h9, f0⟩ := ro_52.mp f0
  obtain rfl := rMg_u hM h9
  clear h9
  have f1 : rB K n p 160 [rI x1, rI x2, rI x3, rI x4] σ := by
    obtain ⟨w, e6, e7⟩ := m4 (2564, [1, 2, 3, 4]) (List.mem_of_getElem? (i := 1) rfl)
    obtain rfl : [rI x1, rI x2, rI x3, rI x4] = w := Option.some.inj (show some [rI x1, rI x2, rI x3, rI x4] = some w from e6)
    exact (rF_b (r := 2564) (by decide) rfl).mp e7
  have f1 := ro_160.mp f1
  have f2 : rB K n p 65 [rI x1, rI x5] σ := by
    obtain ⟨w, e6, e7⟩ := m4 (1042, [1, 5]) (List.mem_of_getElem? (i := 2) rfl)
    obtain rfl : [rI x1, rI x5] = w := Option.some.inj (show some [rI x1, rI x5] = some w from e6)
    exact (rF_b (r := 1042) (by decide) rfl).mp e7
  have f2 := ro_65.mp f2
  have f3 : rB K n p 147 [rI x5, rI x6] σ := by
    obtain ⟨w, e6, e7⟩ := m4 (2354, [5, 6]) (List.mem_of_getElem? (i := 3) rfl)
    obtain rfl : [rI x5, rI x6] = w := Option.some.inj (show some [rI x5, rI x6] = some w from e6)
    exact (rF_b (r := 2354) (by decide) rfl).mp e7
  have f3 := ro_147.mp f3
  clear m1 m2 m3 m4
  have q0 : rB K n p 53 [rR x0, rI x1] σ := ro_53.mpr ⟨_, hM, by
    have hc : ¬ rIsC p.1 x1.toInt := by
      unfold rIsC
      rw [← f2, ← f1.1, ← f1.2.1]
      omega
    refine ⟨f0.1, ?_⟩
    rw [rM4_n hc]
    exact f0.2⟩
  exact ⟨p, fun _ => rfl, ⟨(fun q h => by cases h), fun q h => (by cases h), (fun f h => by cases h), (aAllc ⟨_, rfl, (rF_b (r := 850) (by decide) rfl).mpr q0⟩ (fun f h => by cases h))⟩, [], List.mem_cons_self, fun f h => (by cases h)⟩
theorem rw_rvS4ka {K : Nat → Nat} {n : Nat} {JX : (Nat → jcell) → Prop} : aGho (rF K n) fa_T K n JX ag_rvS4ka := by
  refine aGho_of ⟨rfl, rfl⟩ ?_
  intro p σ ρ hH hX hA hM0
  have hG := aAG_of hA.1 (fun i e v he hv => (hA.2 i e v he hv).1)
  clear hA
  obtain ⟨v0, v1, v2, v3, v4, rfl, g0, g1, g2, g3, g4⟩ := rA_5 hG
  clear hG
  obtain ⟨x0, rfl, b0, d0⟩ := rG_ref (by decide) g0
  obtain ⟨x1, rfl, b1, d1⟩ := aG_int g1
  dsimp only at b1 d1
  obtain ⟨x2, rfl, b2, d2⟩ := aG_int g2
  dsimp only at b2 d2
  obtain ⟨x3, rfl, b3, d3⟩ := aG_int g3
  dsimp only at b3 d3
  obtain ⟨x4, rfl, b4, d4⟩ := aG_int g4
  dsimp only at b4 d4
  obtain ⟨m1, m2, m3, m4⟩ := hM0
  obtain ⟨M, hM⟩ := rMe_ex hH b0 d0
  have l0 : 0 ≤ (1 * x3.toInt + (-1 * x2.toInt + 0)) + -3 := by
    obtain ⟨z, e6, e7⟩ := m3 ([(3, 1), (2, -1)], -3) (List.mem_of_getElem? (i := 0) rfl)
    obtain rfl : (1 * x3.toInt + (-1 * x2.toInt + 0)) = z := Option.some.inj (show some (1 * x3.toInt + (-1 * x2.toInt + 0)) = some z from e6)
    exact e7
  have f0 : rB K n p 52 [rR x0, rI x1] σ := by
    obtain ⟨w, e6, e7⟩ := m4 (834, [0, 1]) (List.mem_of_getElem? (i := 0) rfl)
    obtain rfl : [rR x0, rI x1] = w := Option.some.inj (show some [rR x0, rI x1] = some w from e6)
    exact (rF_b (r := 834) (by decide) rfl).mp e7
  obtain ⟨M9, h9, f0⟩ := ro_52.mp f0
  obtain rfl := rMg_u hM h9
  clear h9
  have f1 : rB K n p 160 [rI x1, rI x2, rI x3, rI x4] σ := by
    obtain ⟨w, e6, e7⟩ := m4 (2564, [1, 2, 3, 4]) (List.mem_of_getElem? (i := 1) rfl)
    obtain rfl : [rI x1, rI x2, rI x3, rI x4] = w := Option.some.inj (show some [rI x1, rI x2, rI x3, rI x4] = some w from e6)
    exact (rF_b (r := 2564) (by decide) rfl).mp e7
  have f1 := ro_160.mp f1
  clear m1 m2 m3 m4
  have q0 : rB K n p 53 [rR x0, rI x1] σ := ro_53.mpr ⟨_, hM, by
    have hc : ¬ rIsC p.1 x1.toInt := by
      unfold rIsC
      rw [← f1.1, ← f1.2.1]
      omega
    refine ⟨f0.1, ?_⟩
    rw [rM4_n hc]
    exact f0.2⟩
  exact ⟨p, fun _ => rfl, ⟨(fun q h => by cases h), fun q h => (by cases h), (fun f h => by cases h), (aAllc ⟨_, rfl, (rF_b (r := 850) (by decide) rfl).mpr q0⟩ (fun f h => by cases h))⟩, [], List.mem_cons_self, fun f h => (by cases h)⟩
theorem rw_rvS4kb {K : Nat → Nat} {n : Nat} {JX : (Nat → jcell) → Prop} : aGho (rF K n) fa_T K n JX ag_rvS4kb := by
  refine aGho_of ⟨rfl, rfl⟩ ?_
  intro p σ ρ hH hX hA hM0
  have hG := aAG_of hA.1 (fun i e v he hv => (hA.2 i e v he hv).1)
  clear hA
  obtain ⟨v0, v1, v2, v3, v4, rfl, g0, g1, g2, g3, g4⟩ := rA_5 hG
  clear hG
  obtain ⟨x0, rfl, b0, d0⟩ := rG_ref (by decide) g0
  obtain ⟨x1, rfl, b1, d1⟩ := aG_int g1
  dsimp only at b1 d1
  obtain ⟨x2, rfl, b2, d2⟩ := aG_int g2
  dsimp only at b2 d2
  obtain ⟨x3, rfl, b3, d3⟩ := aG_int g3
  dsimp only at b3 d3
  obtain ⟨x4, rfl, b4, d4⟩ := aG_int g4
  dsimp only at b4 d4
  obtain ⟨m1, m2, m3, m4⟩ := hM0
  obtain ⟨M, hM⟩ := rMe_ex hH b0 d0
  have l0 : 0 ≤ (-1 * x3.toInt + (1 * x2.toInt + 0)) + 1 := by
    obtain ⟨z, e6, e7⟩ := m3 ([(3, -1), (2, 1)], 1) (List.mem_of_getElem? (i := 0) rfl)
    obtain rfl : (-1 * x3.toInt + (1 * x2.toInt + 0)) = z := Option.some.inj (show some (-1 * x3.toInt + (1 * x2.toInt + 0)) = some z from e6)
    exact e7
  have l1 : 0 ≤ (1 * x3.toInt + (-1 * x2.toInt + 0)) + 1 := by
    obtain ⟨z, e6, e7⟩ := m3 ([(3, 1), (2, -1)], 1) (List.mem_of_getElem? (i := 1) rfl)
    obtain rfl : (1 * x3.toInt + (-1 * x2.toInt + 0)) = z := Option.some.inj (show some (1 * x3.toInt + (-1 * x2.toInt + 0)) = some z from e6)
    exact e7
  have f0 : rB K n p 52 [rR x0, rI x1] σ := by
    obtain ⟨w, e6, e7⟩ := m4 (834, [0, 1]) (List.mem_of_getElem? (i := 0) rfl)
    obtain rfl : [rR x0, rI x1] = w := Option.some.inj (show some [rR x0, rI x1] = some w from e6)
    exact (rF_b (r := 834) (by decide) rfl).mp e7
  obtain ⟨M9, h9, f0⟩ := ro_52.mp f0
  obtain rfl := rMg_u hM h9
  clear h9
  have f1 : rB K n p 160 [rI x1, rI x2, rI x3, rI x4] σ := by
    obtain ⟨w, e6, e7⟩ := m4 (2564, [1, 2, 3, 4]) (List.mem_of_getElem? (i := 1) rfl)
    obtain rfl : [rI x1, rI x2, rI x3, rI x4] = w := Option.some.inj (show some [rI x1, rI x2, rI x3, rI x4] = some w from e6)
    exact (rF_b (r := 2564) (by decide) rfl).mp e7
  have f1 := ro_160.mp f1
  clear m1 m2 m3 m4
  have q0 : rB K n p 53 [rR x0, rI x1] σ := ro_53.mpr ⟨_, hM, by
    have hc : ¬ rIsC p.1 x1.toInt := by
      unfold rIsC
      rw [← f1.1, ← f1.2.1]
      omega
    refine ⟨f0.1, ?_⟩
    rw [rM4_n hc]
    exact f0.2⟩
  exact ⟨p, fun _ => rfl, ⟨(fun q h => by cases h), fun q h => (by cases h), (fun f h => by cases h), (aAllc ⟨_, rfl, (rF_b (r := 850) (by decide) rfl).mpr q0⟩ (fun f h => by cases h))⟩, [], List.mem_cons_self, fun f h => (by cases h)⟩
theorem rw_rvS4kc {K : Nat → Nat} {n : Nat} {JX : (Nat → jcell) → Prop} : aGho (rF K n) fa_T K n JX ag_rvS4kc := by
  refine aGho_of ⟨rfl, rfl⟩ ?_
  intro p σ ρ hH hX hA hM0
  have hG := aAG_of hA.1 (fun i e v he hv => (hA.2 i e v he hv).1)
  clear hA
  obtain ⟨v0, v1, v2, v3, v4, rfl, g0, g1, g2, g3, g4⟩ := rA_5 hG
  clear hG
  obtain ⟨x0, rfl, b0, d0⟩ := rG_ref (by decide) g0
  obtain ⟨x1, rfl, b1, d1⟩ := aG_int g1
  dsimp only at b1 d1
  obtain ⟨x2, rfl, b2, d2⟩ := aG_int g2
  dsimp only at b2 d2
  obtain ⟨x3, rfl, b3, d3⟩ := aG_int g3
  dsimp only at b3 d3
  obtain ⟨x4, rfl, b4, d4⟩ := aG_int g4
  dsimp only at b4 d4
  obtain ⟨m1, m2, m3, m4⟩ := hM0
  obtain ⟨M, hM⟩ := rMe_ex hH b0 d0
  have l0 : 0 ≤ (-1 * x3.toInt + (1 * x2.toInt + 0)) + -3 := by
    obtain ⟨z, e6, e7⟩ := m3 ([(3, -1), (2, 1)], -3) (List.mem_of_getElem? (i := 0) rfl)
    obtain rfl : (-1 * x3.toInt + (1 * x2.toInt + 0)) = z := Option.some.inj (show some (-1 * x3.toInt + (1 * x2.toInt + 0)) = some z from e6)
    exact e7
  have f0 : rB K n p 52 [rR x0, rI x1] σ := by
    obtain ⟨w, e6, e7⟩ := m4 (834, [0, 1]) (List.mem_of_getElem? (i := 0) rfl)
    obtain rfl : [rR x0, rI x1] = w := Option.some.inj (show some [rR x0, rI x1] = some w from e6)
    exact (rF_b (r := 834) (by decide) rfl).mp e7
  obtain ⟨M9, h9, f0⟩ := ro_52.mp f0
  obtain rfl := rMg_u hM h9
  clear h9
  have f1 : rB K n p 160 [rI x1, rI x2, rI x3, rI x4] σ := by
    obtain ⟨w, e6, e7⟩ := m4 (2564, [1, 2, 3, 4]) (List.mem_of_getElem? (i := 1) rfl)
    obtain rfl : [rI x1, rI x2, rI x3, rI x4] = w := Option.some.inj (show some [rI x1, rI x2, rI x3, rI x4] = some w from e6)
    exact (rF_b (r := 2564) (by decide) rfl).mp e7
  have f1 := ro_160.mp f1
  clear m1 m2 m3 m4
  have q0 : rB K n p 53 [rR x0, rI x1] σ := ro_53.mpr ⟨_, hM, by
    have hc : ¬ rIsC p.1 x1.toInt := by
      unfold rIsC
      rw [← f1.1, ← f1.2.1]
      omega
    refine ⟨f0.1, ?_⟩
    rw [rM4_n hc]
    exact f0.2⟩
  exact ⟨p, fun _ => rfl, ⟨(fun q h => by cases h), fun q h => (by cases h), (fun f h => by cases h), (aAllc ⟨_, rfl, (rF_b (r := 850) (by decide) rfl).mpr q0⟩ (fun f h => by cases h))⟩, [], List.mem_cons_self, fun f h => (by cases h)⟩
theorem rw_rvRT1 {K : Nat → Nat} {n : Nat} {JX : (Nat → jcell) → Prop} : aGho (rF K n) fa_T K n JX ag_rvRT1 := by
  refine aGho_of ⟨rfl, rfl⟩ ?_
  intro p σ ρ hH hX hA hM0
  have hG := aAG_of hA.1 (fun i e v he hv => (hA.2 i e v he hv).1)
  clear hA
  obtain ⟨v0, v1, v2, v3, v4, v5, rfl, g0, g1, g2, g3, g4, g5⟩ := rA_6 hG
  clear hG
  obtain ⟨x0, rfl, b0, d0⟩ := aG_int g0
  dsimp only at b0 d0
  obtain ⟨x1, rfl, b1, d1⟩ := aG_int g1
  dsimp only at b1 d1
  obtain ⟨x2, rfl, b2, d2⟩ := aG_int g2
  dsimp only at b2 d2
  obtain ⟨x3, rfl, b3, d3⟩ := aG_int g3
  dsimp only at b3 d3
  obtain ⟨x4, rfl, b4, d4⟩ := aG_int g4
  dsimp only at b4 d4
  obtain ⟨x5, rfl, b5, d5⟩ := aG_int g5
  dsimp only at b5 d5
  obtain ⟨m1, m2, m3, m4⟩ := hM0
  have l0 : 0 ≤ (1 * x5.toInt + 0) + 1 := by
    obtain ⟨z, e6, e7⟩ := m3 ([(5, 1)], 1) (List.mem_of_getElem? (i := 0) rfl)
    obtain rfl : (1 * x5.toInt + 0) = z := Option.some.inj (show some (1 * x5.toInt + 0) = some z from e6)
    exact e7
  have l1 : 0 ≤ (-1 * x5.toInt + 0) + -1 := by
    obtain ⟨z, e6, e7⟩ := m3 ([(5, -1)], -1) (List.mem_of_getElem? (i := 1) rfl)
    obtain rfl : (-1 * x5.toInt + 0) = z := Option.some.inj (show some (-1 * x5.toInt + 0) = some z from e6)
    exact e7
  have f0 : rB K n p 162 [rI x0, rI x2] σ := by
    obtain ⟨w, e6, e7⟩ := m4 (2594, [0, 2]) (List.mem_of_getElem? (i := 0) rfl)
    obtain rfl : [rI x0, rI x2] = w := Option.some.inj (show some [rI x0, rI x2] = some w from e6)
    exact (rF_b (r := 2594) (by decide) rfl).mp e7
  have f0 := ro_162.mp f0
  have f1 : rB K n p 117 [rI x2, rI x5, rI x3] σ := by
    obtain ⟨w, e6, e7⟩ := m4 (1875, [2, 5, 3]) (List.mem_of_getElem? (i := 1) rfl)
    obtain rfl : [rI x2, rI x5, rI x3] = w := Option.some.inj (show some [rI x2, rI x5, rI x3] = some w from e6)
    exact (rF_b (r := 1875) (by decide) rfl).mp e7
  have f1 : x3 = x2 ^^^ x5 := Sum.inl.inj (ro_117.mp f1)
  have f2 : rB K n p 111 [rI x1, rI x3, rI x4] σ := by
    obtain ⟨w, e6, e7⟩ := m4 (1779, [1, 3, 4]) (List.mem_of_getElem? (i := 2) rfl)
    obtain rfl : [rI x1, rI x3, rI x4] = w := Option.some.inj (show some [rI x1, rI x3, rI x4] = some w from e6)
    exact (rF_b (r := 1779) (by decide) rfl).mp e7
  have f2 : x4 = x1 &&& x3 := Sum.inl.inj (ro_111.mp f2)
  clear m1 m2 m3 m4
  have q0 : rB K n p 163 [rI x0, rI x1, rI x4] σ := ro_163.mpr (by
    have em : x5 = -1 := Int32.toInt_inj.mp (by rw [show (-1 : Int32).toInt = -1 from rfl]; omega)
    unfold rAn
    rw [← f0, Int32.ofInt_toInt, Int32.ofInt_toInt, f2, f1, em])
  exact ⟨p, fun _ => rfl, ⟨(fun q h => by cases h), fun q h => (by cases h), (fun f h => by cases h), (aAllc ⟨_, rfl, (rF_b (r := 2611) (by decide) rfl).mpr q0⟩ (fun f h => by cases h))⟩, [], List.mem_cons_self, fun f h => (by cases h)⟩
theorem rw_rvRT2 {K : Nat → Nat} {n : Nat} {JX : (Nat → jcell) → Prop} : aGho (rF K n) fa_T K n JX ag_rvRT2 := by
  refine aGho_of ⟨rfl, rfl⟩ ?_
  intro p σ ρ hH hX hA hM0
  have hG := aAG_of hA.1 (fun i e v he hv => (hA.2 i e v he hv).1)
  clear hA
  obtain ⟨v0, v1, v2, v3, v4, v5, v6, v7, v8, v9, rfl, g0, g1, g2, g3, g4, g5, g6, g7, g8, g9⟩ := rA_10 hG
  clear hG
  obtain ⟨x0, rfl, b0, d0⟩ := aG_int g0
  dsimp only at b0 d0
  obtain ⟨x1, rfl, b1, d1⟩ := aG_int g1
  dsimp only at b1 d1
  obtain ⟨x2, rfl, b2, d2⟩ := aG_int g2
  dsimp only at b2 d2
  obtain ⟨x3, rfl, b3, d3⟩ := aG_int g3
  dsimp only at b3 d3
  obtain ⟨x4, rfl, b4, d4⟩ := aG_int g4
  dsimp only at b4 d4
  obtain ⟨x5, rfl, b5, d5⟩ := aG_int g5
  dsimp only at b5 d5
  obtain ⟨x6, rfl, b6, d6⟩ := aG_int g6
  dsimp only at b6 d6
  obtain ⟨x7, rfl, b7, d7⟩ := aG_int g7
  dsimp only at b7 d7
  obtain ⟨x8, rfl, b8, d8⟩ := aG_int g8
  dsimp only at b8 d8
  obtain ⟨x9, rfl, b9, d9⟩ := aG_int g9
  dsimp only at b9 d9
  obtain ⟨m1, m2, m3, m4⟩ := hM0
  have l0 : 0 ≤ (1 * x9.toInt + 0) + 1 := by
    obtain ⟨z, e6, e7⟩ := m3 ([(9, 1)], 1) (List.mem_of_getElem? (i := 0) rfl)
    obtain rfl : (1 * x9.toInt + 0) = z := Option.some.inj (show some (1 * x9.toInt + 0) = some z from e6)
    exact e7
  have l1 : 0 ≤ (-1 * x9.toInt + 0) + -1 := by
    obtain ⟨z, e6, e7⟩ := m3 ([(9, -1)], -1) (List.mem_of_getElem? (i := 1) rfl)
    obtain rfl : (-1 * x9.toInt + 0) = z := Option.some.inj (show some (-1 * x9.toInt + 0) = some z from e6)
    exact e7
  have f0 : rB K n p 160 [rI x0, rI x1, rI x2, rI x3] σ := by
    obtain ⟨w, e6, e7⟩ := m4 (2564, [0, 1, 2, 3]) (List.mem_of_getElem? (i := 0) rfl)
    obtain rfl : [rI x0, rI x1, rI x2, rI x3] = w := Option.some.inj (show some [rI x0, rI x1, rI x2, rI x3] = some w from e6)
    exact (rF_b (r := 2564) (by decide) rfl).mp e7
  have f0 := ro_160.mp f0
  have f1 : rB K n p 68 [rI x4] σ := by
    obtain ⟨w, e6, e7⟩ := m4 (1089, [4]) (List.mem_of_getElem? (i := 1) rfl)
    obtain rfl : [rI x4] = w := Option.some.inj (show some [rI x4] = some w from e6)
    exact (rF_b (r := 1089) (by decide) rfl).mp e7
  have f1 := ro_68.mp f1
  have f2 : rB K n p 163 [rI x1, rI x4, rI x5] σ := by
    obtain ⟨w, e6, e7⟩ := m4 (2611, [1, 4, 5]) (List.mem_of_getElem? (i := 2) rfl)
    obtain rfl : [rI x1, rI x4, rI x5] = w := Option.some.inj (show some [rI x1, rI x4, rI x5] = some w from e6)
    exact (rF_b (r := 2611) (by decide) rfl).mp e7
  have f2 := ro_163.mp f2
  have f3 : rB K n p 162 [rI x2, rI x6] σ := by
    obtain ⟨w, e6, e7⟩ := m4 (2594, [2, 6]) (List.mem_of_getElem? (i := 3) rfl)
    obtain rfl : [rI x2, rI x6] = w := Option.some.inj (show some [rI x2, rI x6] = some w from e6)
    exact (rF_b (r := 2594) (by decide) rfl).mp e7
  have f3 := ro_162.mp f3
  have f4 : rB K n p 117 [rI x6, rI x9, rI x7] σ := by
    obtain ⟨w, e6, e7⟩ := m4 (1875, [6, 9, 7]) (List.mem_of_getElem? (i := 4) rfl)
    obtain rfl : [rI x6, rI x9, rI x7] = w := Option.some.inj (show some [rI x6, rI x9, rI x7] = some w from e6)
    exact (rF_b (r := 1875) (by decide) rfl).mp e7
  have f4 : x7 = x6 ^^^ x9 := Sum.inl.inj (ro_117.mp f4)
  have f5 : rB K n p 111 [rI x5, rI x7, rI x8] σ := by
    obtain ⟨w, e6, e7⟩ := m4 (1779, [5, 7, 8]) (List.mem_of_getElem? (i := 5) rfl)
    obtain rfl : [rI x5, rI x7, rI x8] = w := Option.some.inj (show some [rI x5, rI x7, rI x8] = some w from e6)
    exact (rF_b (r := 1779) (by decide) rfl).mp e7
  have f5 : x8 = x5 &&& x7 := Sum.inl.inj (ro_111.mp f5)
  clear m1 m2 m3 m4
  have q0 : rB K n p 70 [rI x0, rI x8] σ := ro_70.mpr (by
    have em : x9 = -1 := Int32.toInt_inj.mp (by rw [show (-1 : Int32).toInt = -1 from rfl]; omega)
    rw [← f0.1, ← f0.2.1, ← f1, ← f2, ← f3]
    unfold rAn
    rw [Int32.ofInt_toInt, Int32.ofInt_toInt, f5, f4, em])
  exact ⟨p, fun _ => rfl, ⟨(fun q h => by cases h), fun q h => (by cases h), (fun f h => by cases h), (aAllc ⟨_, rfl, (rF_b (r := 1122) (by decide) rfl).mpr q0⟩ (fun f h => by cases h))⟩, [], List.mem_cons_self, fun f h => (by cases h)⟩
theorem rw_rvNPN0 {K : Nat → Nat} {n : Nat} {JX : (Nat → jcell) → Prop} : aGho (rF K n) fa_T K n JX ag_rvNPN0 := by
  refine aGho_of ⟨rfl, rfl⟩ ?_
  intro p σ ρ hH hX hA hM0
  have hG := aAG_of hA.1 (fun i e v he hv => (hA.2 i e v he hv).1)
  clear hA
  obtain ⟨v0, v1, v2, v3, v4, v5, v6, v7, rfl, g0, g1, g2, g3, g4, g5, g6, g7⟩ := rA_8 hG
  clear hG
  obtain ⟨x0, rfl, b0, d0⟩ := rG_ref (by decide) g0
  obtain ⟨x1, rfl, b1, d1⟩ := aG_int g1
  dsimp only at b1 d1
  obtain ⟨x2, rfl, b2, d2⟩ := aG_int g2
  dsimp only at b2 d2
  obtain ⟨x3, rfl, b3, d3⟩ := aG_int g3
  dsimp only at b3 d3
  obtain ⟨x4, rfl, b4, d4⟩ := aG_int g4
  dsimp only at b4 d4
  obtain ⟨x5, rfl, b5, d5⟩ := aG_int g5
  dsimp only at b5 d5
  obtain ⟨x6, rfl, b6, d6⟩ := aG_int g6
  dsimp only at b6 d6
  obtain ⟨x7, rfl, b7, d7⟩ := aG_int g7
  dsimp only at b7 d7
  obtain ⟨m1, m2, m3, m4⟩ := hM0
  obtain ⟨M, hM⟩ := rMe_ex hH b0 d0
  have f0 : rB K n p 160 [rI x1, rI x2, rI x3, rI x4] σ := by
    obtain ⟨w, e6, e7⟩ := m4 (2564, [1, 2, 3, 4]) (List.mem_of_getElem? (i := 0) rfl)
    obtain rfl : [rI x1, rI x2, rI x3, rI x4] = w := Option.some.inj (show some [rI x1, rI x2, rI x3, rI x4] = some w from e6)
    exact (rF_b (r := 2564) (by decide) rfl).mp e7
  have f0 := ro_160.mp f0
  have f1 : rB K n p 65 [rI x1, rI x5] σ := by
    obtain ⟨w, e6, e7⟩ := m4 (1042, [1, 5]) (List.mem_of_getElem? (i := 1) rfl)
    obtain rfl : [rI x1, rI x5] = w := Option.some.inj (show some [rI x1, rI x5] = some w from e6)
    exact (rF_b (r := 1042) (by decide) rfl).mp e7
  have f1 := ro_65.mp f1
  have f2 : rB K n p 147 [rI x5, rI x6] σ := by
    obtain ⟨w, e6, e7⟩ := m4 (2354, [5, 6]) (List.mem_of_getElem? (i := 2) rfl)
    obtain rfl : [rI x5, rI x6] = w := Option.some.inj (show some [rI x5, rI x6] = some w from e6)
    exact (rF_b (r := 2354) (by decide) rfl).mp e7
  have f2 := ro_147.mp f2
  clear m1 m2 m3 m4
  have q0 : rB K n p 79 [rI x1, rI x7] σ := ro_79.mpr (by
    rw [← f1]
    omega)
  exact ⟨p, fun _ => rfl, ⟨(fun q h => by cases h), fun q h => (by cases h), (fun f h => by cases h), (aAllc ⟨_, rfl, (rF_b (r := 1266) (by decide) rfl).mpr q0⟩ (fun f h => by cases h))⟩, [], List.mem_cons_self, fun f h => (by cases h)⟩
theorem rw_rvNPN1 {K : Nat → Nat} {n : Nat} {JX : (Nat → jcell) → Prop} : aGho (rF K n) fa_T K n JX ag_rvNPN1 := by
  refine aGho_of ⟨rfl, rfl⟩ ?_
  intro p σ ρ hH hX hA hM0
  have hG := aAG_of hA.1 (fun i e v he hv => (hA.2 i e v he hv).1)
  clear hA
  obtain ⟨v0, v1, v2, v3, v4, v5, v6, v7, rfl, g0, g1, g2, g3, g4, g5, g6, g7⟩ := rA_8 hG
  clear hG
  obtain ⟨x0, rfl, b0, d0⟩ := rG_ref (by decide) g0
  obtain ⟨x1, rfl, b1, d1⟩ := aG_int g1
  dsimp only at b1 d1
  obtain ⟨x2, rfl, b2, d2⟩ := aG_int g2
  dsimp only at b2 d2
  obtain ⟨x3, rfl, b3, d3⟩ := aG_int g3
  dsimp only at b3 d3
  obtain ⟨x4, rfl, b4, d4⟩ := aG_int g4
  dsimp only at b4 d4
  obtain ⟨x5, rfl, b5, d5⟩ := aG_int g5
  dsimp only at b5 d5
  obtain ⟨x6, rfl, b6, d6⟩ := aG_int g6
  dsimp only at b6 d6
  obtain ⟨x7, rfl, b7, d7⟩ := aG_int g7
  dsimp only at b7 d7
  obtain ⟨m1, m2, m3, m4⟩ := hM0
  obtain ⟨M, hM⟩ := rMe_ex hH b0 d0
  have f0 : rB K n p 160 [rI x1, rI x2, rI x3, rI x4] σ := by
    obtain ⟨w, e6, e7⟩ := m4 (2564, [1, 2, 3, 4]) (List.mem_of_getElem? (i := 0) rfl)
    obtain rfl : [rI x1, rI x2, rI x3, rI x4] = w := Option.some.inj (show some [rI x1, rI x2, rI x3, rI x4] = some w from e6)
    exact (rF_b (r := 2564) (by decide) rfl).mp e7
  have f0 := ro_160.mp f0
  have f1 : rB K n p 65 [rI x1, rI x5] σ := by
    obtain ⟨w, e6, e7⟩ := m4 (1042, [1, 5]) (List.mem_of_getElem? (i := 1) rfl)
    obtain rfl : [rI x1, rI x5] = w := Option.some.inj (show some [rI x1, rI x5] = some w from e6)
    exact (rF_b (r := 1042) (by decide) rfl).mp e7
  have f1 := ro_65.mp f1
  have f2 : rB K n p 147 [rI x5, rI x6] σ := by
    obtain ⟨w, e6, e7⟩ := m4 (2354, [5, 6]) (List.mem_of_getElem? (i := 2) rfl)
    obtain rfl : [rI x5, rI x6] = w := Option.some.inj (show some [rI x5, rI x6] = some w from e6)
    exact (rF_b (r := 2354) (by decide) rfl).mp e7
  have f2 := ro_147.mp f2
  clear m1 m2 m3 m4
  have q0 : rB K n p 79 [rI x1, rI x7] σ := ro_79.mpr (by
    rw [← f1]
    omega)
  exact ⟨p, fun _ => rfl, ⟨(fun q h => by cases h), fun q h => (by cases h), (fun f h => by cases h), (aAllc ⟨_, rfl, (rF_b (r := 1266) (by decide) rfl).mpr q0⟩ (fun f h => by cases h))⟩, [], List.mem_cons_self, fun f h => (by cases h)⟩
theorem rw_rvPWN {K : Nat → Nat} {n : Nat} {JX : (Nat → jcell) → Prop} : aGho (rF K n) fa_T K n JX ag_rvPWN := by
  refine aGho_of ⟨rfl, rfl⟩ ?_
  intro p σ ρ hH hX hA hM0
  have hG := aAG_of hA.1 (fun i e v he hv => (hA.2 i e v he hv).1)
  clear hA
  obtain ⟨v0, v1, v2, v3, v4, v5, v6, v7, rfl, g0, g1, g2, g3, g4, g5, g6, g7⟩ := rA_8 hG
  clear hG
  obtain ⟨x0, rfl, b0, d0⟩ := rG_ref (by decide) g0
  obtain ⟨x1, rfl, b1, d1⟩ := aG_int g1
  dsimp only at b1 d1
  obtain ⟨x2, rfl, b2, d2⟩ := aG_int g2
  dsimp only at b2 d2
  obtain ⟨x3, rfl, b3, d3⟩ := aG_int g3
  dsimp only at b3 d3
  obtain ⟨x4, rfl, b4, d4⟩ := aG_int g4
  dsimp only at b4 d4
  obtain ⟨x5, rfl, b5, d5⟩ := aG_int g5
  dsimp only at b5 d5
  obtain ⟨x6, rfl, b6, d6⟩ := aG_int g6
  dsimp only at b6 d6
  obtain ⟨x7, rfl, b7, d7⟩ := aG_int g7
  dsimp only at b7 d7
  obtain ⟨m1, m2, m3, m4⟩ := hM0
  obtain ⟨M, hM⟩ := rMe_ex hH b0 d0
  have f0 : rB K n p 160 [rI x1, rI x2, rI x3, rI x4] σ := by
    obtain ⟨w, e6, e7⟩ := m4 (2564, [1, 2, 3, 4]) (List.mem_of_getElem? (i := 0) rfl)
    obtain rfl : [rI x1, rI x2, rI x3, rI x4] = w := Option.some.inj (show some [rI x1, rI x2, rI x3, rI x4] = some w from e6)
    exact (rF_b (r := 2564) (by decide) rfl).mp e7
  have f0 := ro_160.mp f0
  have f1 : rB K n p 65 [rI x1, rI x5] σ := by
    obtain ⟨w, e6, e7⟩ := m4 (1042, [1, 5]) (List.mem_of_getElem? (i := 1) rfl)
    obtain rfl : [rI x1, rI x5] = w := Option.some.inj (show some [rI x1, rI x5] = some w from e6)
    exact (rF_b (r := 1042) (by decide) rfl).mp e7
  have f1 := ro_65.mp f1
  have f2 : rB K n p 147 [rI x5, rI x6] σ := by
    obtain ⟨w, e6, e7⟩ := m4 (2354, [5, 6]) (List.mem_of_getElem? (i := 2) rfl)
    obtain rfl : [rI x5, rI x6] = w := Option.some.inj (show some [rI x5, rI x6] = some w from e6)
    exact (rF_b (r := 2354) (by decide) rfl).mp e7
  have f2 := ro_147.mp f2
  clear m1 m2 m3 m4
  have q0 : rB K n p 79 [rI x1, rI x7] σ := ro_79.mpr (by
    rw [← f1]
    omega)
  exact ⟨p, fun _ => rfl, ⟨(fun q h => by cases h), fun q h => (by cases h), (fun f h => by cases h), (aAllc ⟨_, rfl, (rF_b (r := 1266) (by decide) rfl).mpr q0⟩ (fun f h => by cases h))⟩, [], List.mem_cons_self, fun f h => (by cases h)⟩
theorem rw_rvNPa {K : Nat → Nat} {n : Nat} {JX : (Nat → jcell) → Prop} : aGho (rF K n) fa_T K n JX ag_rvNPa := by
  refine aGho_of ⟨rfl, rfl⟩ ?_
  intro p σ ρ hH hX hA hM0
  have hG := aAG_of hA.1 (fun i e v he hv => (hA.2 i e v he hv).1)
  clear hA
  obtain ⟨v0, v1, v2, v3, v4, v5, v6, rfl, g0, g1, g2, g3, g4, g5, g6⟩ := rA_7 hG
  clear hG
  obtain ⟨x0, rfl, b0, d0⟩ := rG_ref (by decide) g0
  obtain ⟨x1, rfl, b1, d1⟩ := aG_int g1
  dsimp only at b1 d1
  obtain ⟨x2, rfl, b2, d2⟩ := aG_int g2
  dsimp only at b2 d2
  obtain ⟨x3, rfl, b3, d3⟩ := aG_int g3
  dsimp only at b3 d3
  obtain ⟨x4, rfl, b4, d4⟩ := aG_int g4
  dsimp only at b4 d4
  obtain ⟨x5, rfl, b5, d5⟩ := aG_int g5
  dsimp only at b5 d5
  obtain ⟨x6, rfl, b6, d6⟩ := aG_int g6
  dsimp only at b6 d6
  obtain ⟨m1, m2, m3, m4⟩ := hM0
  obtain ⟨M, hM⟩ := rMe_ex hH b0 d0
  have f0 : rB K n p 160 [rI x1, rI x2, rI x3, rI x4] σ := by
    obtain ⟨w, e6, e7⟩ := m4 (2564, [1, 2, 3, 4]) (List.mem_of_getElem? (i := 0) rfl)
    obtain rfl : [rI x1, rI x2, rI x3, rI x4] = w := Option.some.inj (show some [rI x1, rI x2, rI x3, rI x4] = some w from e6)
    exact (rF_b (r := 2564) (by decide) rfl).mp e7
  have f0 := ro_160.mp f0
  have f1 : rB K n p 79 [rI x1, rI x6] σ := by
    obtain ⟨w, e6, e7⟩ := m4 (1266, [1, 6]) (List.mem_of_getElem? (i := 1) rfl)
    obtain rfl : [rI x1, rI x6] = w := Option.some.inj (show some [rI x1, rI x6] = some w from e6)
    exact (rF_b (r := 1266) (by decide) rfl).mp e7
  have f1 := ro_79.mp f1
  clear m1 m2 m3 m4
  have q0 : rB K n p 71 [rI x1, rI x5] σ := ro_71.mpr (by
    unfold rNp
    rw [if_neg (fun h => by have := h.1.1; omega)]
    omega)
  exact ⟨p, fun _ => rfl, ⟨(fun q h => by cases h), fun q h => (by cases h), (fun f h => by cases h), (aAllc ⟨_, rfl, (rF_b (r := 1138) (by decide) rfl).mpr q0⟩ (fun f h => by cases h))⟩, [], List.mem_cons_self, fun f h => (by cases h)⟩
theorem rw_rvNPba {K : Nat → Nat} {n : Nat} {JX : (Nat → jcell) → Prop} : aGho (rF K n) fa_T K n JX ag_rvNPba := by
  refine aGho_of ⟨rfl, rfl⟩ ?_
  intro p σ ρ hH hX hA hM0
  have hG := aAG_of hA.1 (fun i e v he hv => (hA.2 i e v he hv).1)
  clear hA
  obtain ⟨v0, v1, v2, v3, v4, v5, rfl, g0, g1, g2, g3, g4, g5⟩ := rA_6 hG
  clear hG
  obtain ⟨x0, rfl, b0, d0⟩ := rG_ref (by decide) g0
  obtain ⟨x1, rfl, b1, d1⟩ := aG_int g1
  dsimp only at b1 d1
  obtain ⟨x2, rfl, b2, d2⟩ := aG_int g2
  dsimp only at b2 d2
  obtain ⟨x3, rfl, b3, d3⟩ := aG_int g3
  dsimp only at b3 d3
  obtain ⟨x4, rfl, b4, d4⟩ := aG_int g4
  dsimp only at b4 d4
  obtain ⟨x5, rfl, b5, d5⟩ := aG_int g5
  dsimp only at b5 d5
  obtain ⟨m1, m2, m3, m4⟩ := hM0
  obtain ⟨M, hM⟩ := rMe_ex hH b0 d0
  have l0 : 0 ≤ (1 * x3.toInt + (-1 * x2.toInt + 0)) + -17 := by
    obtain ⟨z, e6, e7⟩ := m3 ([(3, 1), (2, -1)], -17) (List.mem_of_getElem? (i := 0) rfl)
    obtain rfl : (1 * x3.toInt + (-1 * x2.toInt + 0)) = z := Option.some.inj (show some (1 * x3.toInt + (-1 * x2.toInt + 0)) = some z from e6)
    exact e7
  have f0 : rB K n p 160 [rI x1, rI x2, rI x3, rI x4] σ := by
    obtain ⟨w, e6, e7⟩ := m4 (2564, [1, 2, 3, 4]) (List.mem_of_getElem? (i := 0) rfl)
    obtain rfl : [rI x1, rI x2, rI x3, rI x4] = w := Option.some.inj (show some [rI x1, rI x2, rI x3, rI x4] = some w from e6)
    exact (rF_b (r := 2564) (by decide) rfl).mp e7
  have f0 := ro_160.mp f0
  clear m1 m2 m3 m4
  have q0 : rB K n p 71 [rI x1, rI x5] σ := ro_71.mpr (by
    unfold rNp
    rw [if_neg (fun h => by have h1 := h.1.2; rw [← f0.1, ← f0.2.1] at h1; omega)]
    omega)
  exact ⟨p, fun _ => rfl, ⟨(fun q h => by cases h), fun q h => (by cases h), (fun f h => by cases h), (aAllc ⟨_, rfl, (rF_b (r := 1138) (by decide) rfl).mpr q0⟩ (fun f h => by cases h))⟩, [], List.mem_cons_self, fun f h => (by cases h)⟩
theorem rw_rvNPbb {K : Nat → Nat} {n : Nat} {JX : (Nat → jcell) → Prop} : aGho (rF K n) fa_T K n JX ag_rvNPbb := by
  refine aGho_of ⟨rfl, rfl⟩ ?_
  intro p σ ρ hH hX hA hM0
  have hG := aAG_of hA.1 (fun i e v he hv => (hA.2 i e v he hv).1)
  clear hA
  obtain ⟨v0, v1, v2, v3, v4, v5, rfl, g0, g1, g2, g3, g4, g5⟩ := rA_6 hG
  clear hG
  obtain ⟨x0, rfl, b0, d0⟩ := rG_ref (by decide) g0
  obtain ⟨x1, rfl, b1, d1⟩ := aG_int g1
  dsimp only at b1 d1
  obtain ⟨x2, rfl, b2, d2⟩ := aG_int g2
  dsimp only at b2 d2
  obtain ⟨x3, rfl, b3, d3⟩ := aG_int g3
  dsimp only at b3 d3
  obtain ⟨x4, rfl, b4, d4⟩ := aG_int g4
  dsimp only at b4 d4
  obtain ⟨x5, rfl, b5, d5⟩ := aG_int g5
  dsimp only at b5 d5
  obtain ⟨m1, m2, m3, m4⟩ := hM0
  obtain ⟨M, hM⟩ := rMe_ex hH b0 d0
  have l0 : 0 ≤ (-1 * x3.toInt + (1 * x2.toInt + 0)) + 15 := by
    obtain ⟨z, e6, e7⟩ := m3 ([(3, -1), (2, 1)], 15) (List.mem_of_getElem? (i := 0) rfl)
    obtain rfl : (-1 * x3.toInt + (1 * x2.toInt + 0)) = z := Option.some.inj (show some (-1 * x3.toInt + (1 * x2.toInt + 0)) = some z from e6)
    exact e7
  have l1 : 0 ≤ (1 * x3.toInt + (-1 * x2.toInt + 0)) + 15 := by
    obtain ⟨z, e6, e7⟩ := m3 ([(3, 1), (2, -1)], 15) (List.mem_of_getElem? (i := 1) rfl)
    obtain rfl : (1 * x3.toInt + (-1 * x2.toInt + 0)) = z := Option.some.inj (show some (1 * x3.toInt + (-1 * x2.toInt + 0)) = some z from e6)
    exact e7
  have f0 : rB K n p 160 [rI x1, rI x2, rI x3, rI x4] σ := by
    obtain ⟨w, e6, e7⟩ := m4 (2564, [1, 2, 3, 4]) (List.mem_of_getElem? (i := 0) rfl)
    obtain rfl : [rI x1, rI x2, rI x3, rI x4] = w := Option.some.inj (show some [rI x1, rI x2, rI x3, rI x4] = some w from e6)
    exact (rF_b (r := 2564) (by decide) rfl).mp e7
  have f0 := ro_160.mp f0
  clear m1 m2 m3 m4
  have q0 : rB K n p 71 [rI x1, rI x5] σ := ro_71.mpr (by
    unfold rNp
    rw [if_neg (fun h => by have h1 := h.1.2; rw [← f0.1, ← f0.2.1] at h1; omega)]
    omega)
  exact ⟨p, fun _ => rfl, ⟨(fun q h => by cases h), fun q h => (by cases h), (fun f h => by cases h), (aAllc ⟨_, rfl, (rF_b (r := 1138) (by decide) rfl).mpr q0⟩ (fun f h => by cases h))⟩, [], List.mem_cons_self, fun f h => (by cases h)⟩
theorem rw_rvNPbc {K : Nat → Nat} {n : Nat} {JX : (Nat → jcell) → Prop} : aGho (rF K n) fa_T K n JX ag_rvNPbc := by
  refine aGho_of ⟨rfl, rfl⟩ ?_
  intro p σ ρ hH hX hA hM0
  have hG := aAG_of hA.1 (fun i e v he hv => (hA.2 i e v he hv).1)
  clear hA
  obtain ⟨v0, v1, v2, v3, v4, v5, rfl, g0, g1, g2, g3, g4, g5⟩ := rA_6 hG
  clear hG
  obtain ⟨x0, rfl, b0, d0⟩ := rG_ref (by decide) g0
  obtain ⟨x1, rfl, b1, d1⟩ := aG_int g1
  dsimp only at b1 d1
  obtain ⟨x2, rfl, b2, d2⟩ := aG_int g2
  dsimp only at b2 d2
  obtain ⟨x3, rfl, b3, d3⟩ := aG_int g3
  dsimp only at b3 d3
  obtain ⟨x4, rfl, b4, d4⟩ := aG_int g4
  dsimp only at b4 d4
  obtain ⟨x5, rfl, b5, d5⟩ := aG_int g5
  dsimp only at b5 d5
  obtain ⟨m1, m2, m3, m4⟩ := hM0
  obtain ⟨M, hM⟩ := rMe_ex hH b0 d0
  have l0 : 0 ≤ (-1 * x3.toInt + (1 * x2.toInt + 0)) + -17 := by
    obtain ⟨z, e6, e7⟩ := m3 ([(3, -1), (2, 1)], -17) (List.mem_of_getElem? (i := 0) rfl)
    obtain rfl : (-1 * x3.toInt + (1 * x2.toInt + 0)) = z := Option.some.inj (show some (-1 * x3.toInt + (1 * x2.toInt + 0)) = some z from e6)
    exact e7
  have f0 : rB K n p 160 [rI x1, rI x2, rI x3, rI x4] σ := by
    obtain ⟨w, e6, e7⟩ := m4 (2564, [1, 2, 3, 4]) (List.mem_of_getElem? (i := 0) rfl)
    obtain rfl : [rI x1, rI x2, rI x3, rI x4] = w := Option.some.inj (show some [rI x1, rI x2, rI x3, rI x4] = some w from e6)
    exact (rF_b (r := 2564) (by decide) rfl).mp e7
  have f0 := ro_160.mp f0
  clear m1 m2 m3 m4
  have q0 : rB K n p 71 [rI x1, rI x5] σ := ro_71.mpr (by
    unfold rNp
    rw [if_neg (fun h => by have h1 := h.1.2; rw [← f0.1, ← f0.2.1] at h1; omega)]
    omega)
  exact ⟨p, fun _ => rfl, ⟨(fun q h => by cases h), fun q h => (by cases h), (fun f h => by cases h), (aAllc ⟨_, rfl, (rF_b (r := 1138) (by decide) rfl).mpr q0⟩ (fun f h => by cases h))⟩, [], List.mem_cons_self, fun f h => (by cases h)⟩
theorem rw_rvNPylu {K : Nat → Nat} {n : Nat} {JX : (Nat → jcell) → Prop} : aGho (rF K n) fa_T K n JX ag_rvNPylu := by
  refine aGho_of ⟨rfl, rfl⟩ ?_
  intro p σ ρ hH hX hA hM0
  have hG := aAG_of hA.1 (fun i e v he hv => (hA.2 i e v he hv).1)
  clear hA
  obtain ⟨v0, v1, v2, v3, v4, v5, v6, v7, v8, v9, v10, v11, v12, rfl, g0, g1, g2, g3, g4, g5, g6, g7, g8, g9, g10, g11, g12⟩ := rA_13 hG
  clear hG
  obtain ⟨x0, rfl, b0, d0⟩ := rG_ref (by decide) g0
  obtain ⟨x1, rfl, b1, d1⟩ := aG_int g1
  dsimp only at b1 d1
  obtain ⟨x2, rfl, b2, d2⟩ := aG_int g2
  dsimp only at b2 d2
  obtain ⟨x3, rfl, b3, d3⟩ := aG_int g3
  dsimp only at b3 d3
  obtain ⟨x4, rfl, b4, d4⟩ := aG_int g4
  dsimp only at b4 d4
  obtain ⟨x5, rfl, b5, d5⟩ := aG_int g5
  dsimp only at b5 d5
  obtain ⟨x6, rfl, b6, d6⟩ := aG_int g6
  dsimp only at b6 d6
  obtain ⟨x7, rfl, b7, d7⟩ := aG_int g7
  dsimp only at b7 d7
  obtain ⟨x8, rfl, b8, d8⟩ := aG_int g8
  dsimp only at b8 d8
  obtain ⟨x9, rfl, b9, d9⟩ := aG_int g9
  dsimp only at b9 d9
  obtain ⟨x10, rfl, b10, d10⟩ := aG_int g10
  dsimp only at b10 d10
  obtain ⟨x11, rfl, b11, d11⟩ := aG_int g11
  dsimp only at b11 d11
  obtain ⟨x12, rfl, b12, d12⟩ := aG_int g12
  dsimp only at b12 d12
  obtain ⟨m1, m2, m3, m4⟩ := hM0
  obtain ⟨M, hM⟩ := rMe_ex hH b0 d0
  have l0 : 0 ≤ (1 * x3.toInt + (-1 * x2.toInt + 0)) + -16 := by
    obtain ⟨z, e6, e7⟩ := m3 ([(3, 1), (2, -1)], -16) (List.mem_of_getElem? (i := 0) rfl)
    obtain rfl : (1 * x3.toInt + (-1 * x2.toInt + 0)) = z := Option.some.inj (show some (1 * x3.toInt + (-1 * x2.toInt + 0)) = some z from e6)
    exact e7
  have l1 : 0 ≤ (-1 * x3.toInt + (1 * x2.toInt + 0)) + 16 := by
    obtain ⟨z, e6, e7⟩ := m3 ([(3, -1), (2, 1)], 16) (List.mem_of_getElem? (i := 1) rfl)
    obtain rfl : (-1 * x3.toInt + (1 * x2.toInt + 0)) = z := Option.some.inj (show some (-1 * x3.toInt + (1 * x2.toInt + 0)) = some z from e6)
    exact e7
  have l2 : 0 ≤ (1 * x9.toInt + (8 * x5.toInt + 0)) + -9 := by
    obtain ⟨z, e6, e7⟩ := m3 ([(9, 1), (5, 8)], -9) (List.mem_of_getElem? (i := 2) rfl)
    obtain rfl : (1 * x9.toInt + (8 * x5.toInt + 0)) = z := Option.some.inj (show some (1 * x9.toInt + (8 * x5.toInt + 0)) = some z from e6)
    exact e7
  have l3 : 0 ≤ (-1 * x9.toInt + (-8 * x5.toInt + 0)) + 9 := by
    obtain ⟨z, e6, e7⟩ := m3 ([(9, -1), (5, -8)], 9) (List.mem_of_getElem? (i := 3) rfl)
    obtain rfl : (-1 * x9.toInt + (-8 * x5.toInt + 0)) = z := Option.some.inj (show some (-1 * x9.toInt + (-8 * x5.toInt + 0)) = some z from e6)
    exact e7
  have l4 : 0 ≤ (1 * x2.toInt + (1 * x3.toInt + (-2 * x11.toInt + 0))) + 0 := by
    obtain ⟨z, e6, e7⟩ := m3 ([(2, 1), (3, 1), (11, -2)], 0) (List.mem_of_getElem? (i := 4) rfl)
    obtain rfl : (1 * x2.toInt + (1 * x3.toInt + (-2 * x11.toInt + 0))) = z := Option.some.inj (show some (1 * x2.toInt + (1 * x3.toInt + (-2 * x11.toInt + 0))) = some z from e6)
    exact e7
  have l5 : 0 ≤ (-1 * x2.toInt + (-1 * x3.toInt + (2 * x11.toInt + 0))) + 1 := by
    obtain ⟨z, e6, e7⟩ := m3 ([(2, -1), (3, -1), (11, 2)], 1) (List.mem_of_getElem? (i := 5) rfl)
    obtain rfl : (-1 * x2.toInt + (-1 * x3.toInt + (2 * x11.toInt + 0))) = z := Option.some.inj (show some (-1 * x2.toInt + (-1 * x3.toInt + (2 * x11.toInt + 0))) = some z from e6)
    exact e7
  have f0 : rB K n p 53 [rR x0, rI x1] σ := by
    obtain ⟨w, e6, e7⟩ := m4 (850, [0, 1]) (List.mem_of_getElem? (i := 0) rfl)
    obtain rfl : [rR x0, rI x1] = w := Option.some.inj (show some [rR x0, rI x1] = some w from e6)
    exact (rF_b (r := 850) (by decide) rfl).mp e7
  obtain ⟨M9, h9, f0⟩ := ro_53.mp f0
  obtain rfl := rMg_u hM h9
  clear h9
  have f1 : rB K n p 160 [rI x1, rI x2, rI x3, rI x4] σ := by
    obtain ⟨w, e6, e7⟩ := m4 (2564, [1, 2, 3, 4]) (List.mem_of_getElem? (i := 1) rfl)
    obtain rfl : [rI x1, rI x2, rI x3, rI x4] = w := Option.some.inj (show some [rI x1, rI x2, rI x3, rI x4] = some w from e6)
    exact (rF_b (r := 2564) (by decide) rfl).mp e7
  have f1 := ro_160.mp f1
  have f2 : rB K n p 79 [rI x1, rI x12] σ := by
    obtain ⟨w, e6, e7⟩ := m4 (1266, [1, 12]) (List.mem_of_getElem? (i := 2) rfl)
    obtain rfl : [rI x1, rI x12] = w := Option.some.inj (show some [rI x1, rI x12] = some w from e6)
    exact (rF_b (r := 1266) (by decide) rfl).mp e7
  have f2 := ro_79.mp f2
  have f3 : rB K n p 67 [rI x5] σ := by
    obtain ⟨w, e6, e7⟩ := m4 (1073, [5]) (List.mem_of_getElem? (i := 3) rfl)
    obtain rfl : [rI x5] = w := Option.some.inj (show some [rI x5] = some w from e6)
    exact (rF_b (r := 1073) (by decide) rfl).mp e7
  have f3 := ro_67.mp f3
  have f4 : rB K n p 120 [rI x3, rI x6, rI x7, rI x8] σ := by
    obtain ⟨w, e6, e7⟩ := m4 (1924, [3, 6, 7, 8]) (List.mem_of_getElem? (i := 4) rfl)
    obtain rfl : [rI x3, rI x6, rI x7, rI x8] = w := Option.some.inj (show some [rI x3, rI x6, rI x7, rI x8] = some w from e6)
    exact (rF_b (r := 1924) (by decide) rfl).mp e7
  have f4 := ro_120.mp f4
  have f5 : rB K n p 122 [rR x0, rI x8, rI x9, rI x10] σ := by
    obtain ⟨w, e6, e7⟩ := m4 (1956, [0, 8, 9, 10]) (List.mem_of_getElem? (i := 5) rfl)
    obtain rfl : [rR x0, rI x8, rI x9, rI x10] = w := Option.some.inj (show some [rR x0, rI x8, rI x9, rI x10] = some w from e6)
    exact (rF_b (r := 1956) (by decide) rfl).mp e7
  obtain ⟨M9, h9, f5⟩ := ro_122.mp f5
  obtain rfl := rMg_u hM h9
  clear h9
  clear m1 m2 m3 m4
  have q0 : rB K n p 71 [rI x1, rI x11] σ := ro_71.mpr (by
    have hn : rNbr (rM4 p.1 x1.toInt) (rTo x1.toInt) (-1) (1 + 8 * (1 - p.1.2.1)) := by
      unfold rNbr
      rw [← f0.2, ← f1.2.1, show rSp x3.toInt (-1) 0 = x8.toInt by rw [f4, show x6.toInt = -1 by omega, show x7.toInt = 0 by omega]]
      omega
    unfold rNp
    rw [if_pos ⟨⟨by omega, by rw [← f1.1, ← f1.2.1]; omega⟩, Or.inl hn⟩, ← f1.1, ← f1.2.1]
    omega)
  exact ⟨p, fun _ => rfl, ⟨(fun q h => by cases h), fun q h => (by cases h), (fun f h => by cases h), (aAllc ⟨_, rfl, (rF_b (r := 1138) (by decide) rfl).mpr q0⟩ (fun f h => by cases h))⟩, [], List.mem_cons_self, fun f h => (by cases h)⟩
theorem rw_rvNPyru {K : Nat → Nat} {n : Nat} {JX : (Nat → jcell) → Prop} : aGho (rF K n) fa_T K n JX ag_rvNPyru := by
  refine aGho_of ⟨rfl, rfl⟩ ?_
  intro p σ ρ hH hX hA hM0
  have hG := aAG_of hA.1 (fun i e v he hv => (hA.2 i e v he hv).1)
  clear hA
  obtain ⟨v0, v1, v2, v3, v4, v5, v6, v7, v8, v9, v10, v11, v12, rfl, g0, g1, g2, g3, g4, g5, g6, g7, g8, g9, g10, g11, g12⟩ := rA_13 hG
  clear hG
  obtain ⟨x0, rfl, b0, d0⟩ := rG_ref (by decide) g0
  obtain ⟨x1, rfl, b1, d1⟩ := aG_int g1
  dsimp only at b1 d1
  obtain ⟨x2, rfl, b2, d2⟩ := aG_int g2
  dsimp only at b2 d2
  obtain ⟨x3, rfl, b3, d3⟩ := aG_int g3
  dsimp only at b3 d3
  obtain ⟨x4, rfl, b4, d4⟩ := aG_int g4
  dsimp only at b4 d4
  obtain ⟨x5, rfl, b5, d5⟩ := aG_int g5
  dsimp only at b5 d5
  obtain ⟨x6, rfl, b6, d6⟩ := aG_int g6
  dsimp only at b6 d6
  obtain ⟨x7, rfl, b7, d7⟩ := aG_int g7
  dsimp only at b7 d7
  obtain ⟨x8, rfl, b8, d8⟩ := aG_int g8
  dsimp only at b8 d8
  obtain ⟨x9, rfl, b9, d9⟩ := aG_int g9
  dsimp only at b9 d9
  obtain ⟨x10, rfl, b10, d10⟩ := aG_int g10
  dsimp only at b10 d10
  obtain ⟨x11, rfl, b11, d11⟩ := aG_int g11
  dsimp only at b11 d11
  obtain ⟨x12, rfl, b12, d12⟩ := aG_int g12
  dsimp only at b12 d12
  obtain ⟨m1, m2, m3, m4⟩ := hM0
  obtain ⟨M, hM⟩ := rMe_ex hH b0 d0
  have l0 : 0 ≤ (1 * x3.toInt + (-1 * x2.toInt + 0)) + -16 := by
    obtain ⟨z, e6, e7⟩ := m3 ([(3, 1), (2, -1)], -16) (List.mem_of_getElem? (i := 0) rfl)
    obtain rfl : (1 * x3.toInt + (-1 * x2.toInt + 0)) = z := Option.some.inj (show some (1 * x3.toInt + (-1 * x2.toInt + 0)) = some z from e6)
    exact e7
  have l1 : 0 ≤ (-1 * x3.toInt + (1 * x2.toInt + 0)) + 16 := by
    obtain ⟨z, e6, e7⟩ := m3 ([(3, -1), (2, 1)], 16) (List.mem_of_getElem? (i := 1) rfl)
    obtain rfl : (-1 * x3.toInt + (1 * x2.toInt + 0)) = z := Option.some.inj (show some (-1 * x3.toInt + (1 * x2.toInt + 0)) = some z from e6)
    exact e7
  have l2 : 0 ≤ (1 * x9.toInt + (8 * x5.toInt + 0)) + -9 := by
    obtain ⟨z, e6, e7⟩ := m3 ([(9, 1), (5, 8)], -9) (List.mem_of_getElem? (i := 2) rfl)
    obtain rfl : (1 * x9.toInt + (8 * x5.toInt + 0)) = z := Option.some.inj (show some (1 * x9.toInt + (8 * x5.toInt + 0)) = some z from e6)
    exact e7
  have l3 : 0 ≤ (-1 * x9.toInt + (-8 * x5.toInt + 0)) + 9 := by
    obtain ⟨z, e6, e7⟩ := m3 ([(9, -1), (5, -8)], 9) (List.mem_of_getElem? (i := 3) rfl)
    obtain rfl : (-1 * x9.toInt + (-8 * x5.toInt + 0)) = z := Option.some.inj (show some (-1 * x9.toInt + (-8 * x5.toInt + 0)) = some z from e6)
    exact e7
  have l4 : 0 ≤ (1 * x2.toInt + (1 * x3.toInt + (-2 * x11.toInt + 0))) + 0 := by
    obtain ⟨z, e6, e7⟩ := m3 ([(2, 1), (3, 1), (11, -2)], 0) (List.mem_of_getElem? (i := 4) rfl)
    obtain rfl : (1 * x2.toInt + (1 * x3.toInt + (-2 * x11.toInt + 0))) = z := Option.some.inj (show some (1 * x2.toInt + (1 * x3.toInt + (-2 * x11.toInt + 0))) = some z from e6)
    exact e7
  have l5 : 0 ≤ (-1 * x2.toInt + (-1 * x3.toInt + (2 * x11.toInt + 0))) + 1 := by
    obtain ⟨z, e6, e7⟩ := m3 ([(2, -1), (3, -1), (11, 2)], 1) (List.mem_of_getElem? (i := 5) rfl)
    obtain rfl : (-1 * x2.toInt + (-1 * x3.toInt + (2 * x11.toInt + 0))) = z := Option.some.inj (show some (-1 * x2.toInt + (-1 * x3.toInt + (2 * x11.toInt + 0))) = some z from e6)
    exact e7
  have f0 : rB K n p 53 [rR x0, rI x1] σ := by
    obtain ⟨w, e6, e7⟩ := m4 (850, [0, 1]) (List.mem_of_getElem? (i := 0) rfl)
    obtain rfl : [rR x0, rI x1] = w := Option.some.inj (show some [rR x0, rI x1] = some w from e6)
    exact (rF_b (r := 850) (by decide) rfl).mp e7
  obtain ⟨M9, h9, f0⟩ := ro_53.mp f0
  obtain rfl := rMg_u hM h9
  clear h9
  have f1 : rB K n p 160 [rI x1, rI x2, rI x3, rI x4] σ := by
    obtain ⟨w, e6, e7⟩ := m4 (2564, [1, 2, 3, 4]) (List.mem_of_getElem? (i := 1) rfl)
    obtain rfl : [rI x1, rI x2, rI x3, rI x4] = w := Option.some.inj (show some [rI x1, rI x2, rI x3, rI x4] = some w from e6)
    exact (rF_b (r := 2564) (by decide) rfl).mp e7
  have f1 := ro_160.mp f1
  have f2 : rB K n p 79 [rI x1, rI x12] σ := by
    obtain ⟨w, e6, e7⟩ := m4 (1266, [1, 12]) (List.mem_of_getElem? (i := 2) rfl)
    obtain rfl : [rI x1, rI x12] = w := Option.some.inj (show some [rI x1, rI x12] = some w from e6)
    exact (rF_b (r := 1266) (by decide) rfl).mp e7
  have f2 := ro_79.mp f2
  have f3 : rB K n p 67 [rI x5] σ := by
    obtain ⟨w, e6, e7⟩ := m4 (1073, [5]) (List.mem_of_getElem? (i := 3) rfl)
    obtain rfl : [rI x5] = w := Option.some.inj (show some [rI x5] = some w from e6)
    exact (rF_b (r := 1073) (by decide) rfl).mp e7
  have f3 := ro_67.mp f3
  have f4 : rB K n p 120 [rI x3, rI x6, rI x7, rI x8] σ := by
    obtain ⟨w, e6, e7⟩ := m4 (1924, [3, 6, 7, 8]) (List.mem_of_getElem? (i := 4) rfl)
    obtain rfl : [rI x3, rI x6, rI x7, rI x8] = w := Option.some.inj (show some [rI x3, rI x6, rI x7, rI x8] = some w from e6)
    exact (rF_b (r := 1924) (by decide) rfl).mp e7
  have f4 := ro_120.mp f4
  have f5 : rB K n p 122 [rR x0, rI x8, rI x9, rI x10] σ := by
    obtain ⟨w, e6, e7⟩ := m4 (1956, [0, 8, 9, 10]) (List.mem_of_getElem? (i := 5) rfl)
    obtain rfl : [rR x0, rI x8, rI x9, rI x10] = w := Option.some.inj (show some [rR x0, rI x8, rI x9, rI x10] = some w from e6)
    exact (rF_b (r := 1956) (by decide) rfl).mp e7
  obtain ⟨M9, h9, f5⟩ := ro_122.mp f5
  obtain rfl := rMg_u hM h9
  clear h9
  clear m1 m2 m3 m4
  have q0 : rB K n p 71 [rI x1, rI x11] σ := ro_71.mpr (by
    have hn : rNbr (rM4 p.1 x1.toInt) (rTo x1.toInt) (1) (1 + 8 * (1 - p.1.2.1)) := by
      unfold rNbr
      rw [← f0.2, ← f1.2.1, show rSp x3.toInt (1) 0 = x8.toInt by rw [f4, show x6.toInt = 1 by omega, show x7.toInt = 0 by omega]]
      omega
    unfold rNp
    rw [if_pos ⟨⟨by omega, by rw [← f1.1, ← f1.2.1]; omega⟩, Or.inr hn⟩, ← f1.1, ← f1.2.1]
    omega)
  exact ⟨p, fun _ => rfl, ⟨(fun q h => by cases h), fun q h => (by cases h), (fun f h => by cases h), (aAllc ⟨_, rfl, (rF_b (r := 1138) (by decide) rfl).mpr q0⟩ (fun f h => by cases h))⟩, [], List.mem_cons_self, fun f h => (by cases h)⟩
theorem rw_rvNPnu {K : Nat → Nat} {n : Nat} {JX : (Nat → jcell) → Prop} : aGho (rF K n) fa_T K n JX ag_rvNPnu := by
  refine aGho_of ⟨rfl, rfl⟩ ?_
  intro p σ ρ hH hX hA hM0
  have hG := aAG_of hA.1 (fun i e v he hv => (hA.2 i e v he hv).1)
  clear hA
  obtain ⟨v0, v1, v2, v3, v4, v5, v6, v7, v8, v9, v10, v11, v12, rfl, g0, g1, g2, g3, g4, g5, g6, g7, g8, g9, g10, g11, g12⟩ := rA_13 hG
  clear hG
  obtain ⟨x0, rfl, b0, d0⟩ := rG_ref (by decide) g0
  obtain ⟨x1, rfl, b1, d1⟩ := aG_int g1
  dsimp only at b1 d1
  obtain ⟨x2, rfl, b2, d2⟩ := aG_int g2
  dsimp only at b2 d2
  obtain ⟨x3, rfl, b3, d3⟩ := aG_int g3
  dsimp only at b3 d3
  obtain ⟨x4, rfl, b4, d4⟩ := aG_int g4
  dsimp only at b4 d4
  obtain ⟨x5, rfl, b5, d5⟩ := aG_int g5
  dsimp only at b5 d5
  obtain ⟨x6, rfl, b6, d6⟩ := aG_int g6
  dsimp only at b6 d6
  obtain ⟨x7, rfl, b7, d7⟩ := aG_int g7
  dsimp only at b7 d7
  obtain ⟨x8, rfl, b8, d8⟩ := aG_int g8
  dsimp only at b8 d8
  obtain ⟨x9, rfl, b9, d9⟩ := aG_int g9
  dsimp only at b9 d9
  obtain ⟨x10, rfl, b10, d10⟩ := aG_int g10
  dsimp only at b10 d10
  obtain ⟨x11, rfl, b11, d11⟩ := aG_int g11
  dsimp only at b11 d11
  obtain ⟨x12, rfl, b12, d12⟩ := aG_int g12
  dsimp only at b12 d12
  obtain ⟨m1, m2, m3, m4⟩ := hM0
  obtain ⟨M, hM⟩ := rMe_ex hH b0 d0
  have l0 : 0 ≤ (1 * x3.toInt + (-1 * x2.toInt + 0)) + -16 := by
    obtain ⟨z, e6, e7⟩ := m3 ([(3, 1), (2, -1)], -16) (List.mem_of_getElem? (i := 0) rfl)
    obtain rfl : (1 * x3.toInt + (-1 * x2.toInt + 0)) = z := Option.some.inj (show some (1 * x3.toInt + (-1 * x2.toInt + 0)) = some z from e6)
    exact e7
  have l1 : 0 ≤ (-1 * x3.toInt + (1 * x2.toInt + 0)) + 16 := by
    obtain ⟨z, e6, e7⟩ := m3 ([(3, -1), (2, 1)], 16) (List.mem_of_getElem? (i := 1) rfl)
    obtain rfl : (-1 * x3.toInt + (1 * x2.toInt + 0)) = z := Option.some.inj (show some (-1 * x3.toInt + (1 * x2.toInt + 0)) = some z from e6)
    exact e7
  have l2 : 0 ≤ (1 * x9.toInt + (8 * x5.toInt + 0)) + -9 := by
    obtain ⟨z, e6, e7⟩ := m3 ([(9, 1), (5, 8)], -9) (List.mem_of_getElem? (i := 2) rfl)
    obtain rfl : (1 * x9.toInt + (8 * x5.toInt + 0)) = z := Option.some.inj (show some (1 * x9.toInt + (8 * x5.toInt + 0)) = some z from e6)
    exact e7
  have l3 : 0 ≤ (-1 * x9.toInt + (-8 * x5.toInt + 0)) + 9 := by
    obtain ⟨z, e6, e7⟩ := m3 ([(9, -1), (5, -8)], 9) (List.mem_of_getElem? (i := 3) rfl)
    obtain rfl : (-1 * x9.toInt + (-8 * x5.toInt + 0)) = z := Option.some.inj (show some (-1 * x9.toInt + (-8 * x5.toInt + 0)) = some z from e6)
    exact e7
  have f0 : rB K n p 53 [rR x0, rI x1] σ := by
    obtain ⟨w, e6, e7⟩ := m4 (850, [0, 1]) (List.mem_of_getElem? (i := 0) rfl)
    obtain rfl : [rR x0, rI x1] = w := Option.some.inj (show some [rR x0, rI x1] = some w from e6)
    exact (rF_b (r := 850) (by decide) rfl).mp e7
  obtain ⟨M9, h9, f0⟩ := ro_53.mp f0
  obtain rfl := rMg_u hM h9
  clear h9
  have f1 : rB K n p 160 [rI x1, rI x2, rI x3, rI x4] σ := by
    obtain ⟨w, e6, e7⟩ := m4 (2564, [1, 2, 3, 4]) (List.mem_of_getElem? (i := 1) rfl)
    obtain rfl : [rI x1, rI x2, rI x3, rI x4] = w := Option.some.inj (show some [rI x1, rI x2, rI x3, rI x4] = some w from e6)
    exact (rF_b (r := 2564) (by decide) rfl).mp e7
  have f1 := ro_160.mp f1
  have f2 : rB K n p 79 [rI x1, rI x12] σ := by
    obtain ⟨w, e6, e7⟩ := m4 (1266, [1, 12]) (List.mem_of_getElem? (i := 2) rfl)
    obtain rfl : [rI x1, rI x12] = w := Option.some.inj (show some [rI x1, rI x12] = some w from e6)
    exact (rF_b (r := 1266) (by decide) rfl).mp e7
  have f2 := ro_79.mp f2
  have f3 : rB K n p 67 [rI x5] σ := by
    obtain ⟨w, e6, e7⟩ := m4 (1073, [5]) (List.mem_of_getElem? (i := 3) rfl)
    obtain rfl : [rI x5] = w := Option.some.inj (show some [rI x5] = some w from e6)
    exact (rF_b (r := 1073) (by decide) rfl).mp e7
  have f3 := ro_67.mp f3
  have f4 : rB K n p 72 [rI x1] σ := by
    obtain ⟨w, e6, e7⟩ := m4 (1153, [1]) (List.mem_of_getElem? (i := 4) rfl)
    obtain rfl : [rI x1] = w := Option.some.inj (show some [rI x1] = some w from e6)
    exact (rF_b (r := 1153) (by decide) rfl).mp e7
  have f4 := ro_72.mp f4
  have f5 : rB K n p 120 [rI x3, rI x6, rI x7, rI x8] σ := by
    obtain ⟨w, e6, e7⟩ := m4 (1924, [3, 6, 7, 8]) (List.mem_of_getElem? (i := 5) rfl)
    obtain rfl : [rI x3, rI x6, rI x7, rI x8] = w := Option.some.inj (show some [rI x3, rI x6, rI x7, rI x8] = some w from e6)
    exact (rF_b (r := 1924) (by decide) rfl).mp e7
  have f5 := ro_120.mp f5
  have f6 : rB K n p 122 [rR x0, rI x8, rI x9, rI x10] σ := by
    obtain ⟨w, e6, e7⟩ := m4 (1956, [0, 8, 9, 10]) (List.mem_of_getElem? (i := 6) rfl)
    obtain rfl : [rR x0, rI x8, rI x9, rI x10] = w := Option.some.inj (show some [rR x0, rI x8, rI x9, rI x10] = some w from e6)
    exact (rF_b (r := 1956) (by decide) rfl).mp e7
  obtain ⟨M9, h9, f6⟩ := ro_122.mp f6
  obtain rfl := rMg_u hM h9
  clear h9
  clear m1 m2 m3 m4
  have q0 : rB K n p 71 [rI x1, rI x11] σ := ro_71.mpr (by
    have hn : ¬ rNbr (rM4 p.1 x1.toInt) (rTo x1.toInt) 1 (1 + 8 * (1 - p.1.2.1)) := by
      unfold rNbr
      rw [← f0.2, ← f1.2.1, show rSp x3.toInt 1 0 = x8.toInt by rw [f5, show x6.toInt = 1 by omega, show x7.toInt = 0 by omega]]
      omega
    unfold rNp
    rw [if_neg (fun h => h.2.elim f4 hn)]
    omega)
  exact ⟨p, fun _ => rfl, ⟨(fun q h => by cases h), fun q h => (by cases h), (fun f h => by cases h), (aAllc ⟨_, rfl, (rF_b (r := 1138) (by decide) rfl).mpr q0⟩ (fun f h => by cases h))⟩, [], List.mem_cons_self, fun f h => (by cases h)⟩
theorem rw_rvNPyld {K : Nat → Nat} {n : Nat} {JX : (Nat → jcell) → Prop} : aGho (rF K n) fa_T K n JX ag_rvNPyld := by
  refine aGho_of ⟨rfl, rfl⟩ ?_
  intro p σ ρ hH hX hA hM0
  have hG := aAG_of hA.1 (fun i e v he hv => (hA.2 i e v he hv).1)
  clear hA
  obtain ⟨v0, v1, v2, v3, v4, v5, v6, v7, v8, v9, v10, v11, v12, rfl, g0, g1, g2, g3, g4, g5, g6, g7, g8, g9, g10, g11, g12⟩ := rA_13 hG
  clear hG
  obtain ⟨x0, rfl, b0, d0⟩ := rG_ref (by decide) g0
  obtain ⟨x1, rfl, b1, d1⟩ := aG_int g1
  dsimp only at b1 d1
  obtain ⟨x2, rfl, b2, d2⟩ := aG_int g2
  dsimp only at b2 d2
  obtain ⟨x3, rfl, b3, d3⟩ := aG_int g3
  dsimp only at b3 d3
  obtain ⟨x4, rfl, b4, d4⟩ := aG_int g4
  dsimp only at b4 d4
  obtain ⟨x5, rfl, b5, d5⟩ := aG_int g5
  dsimp only at b5 d5
  obtain ⟨x6, rfl, b6, d6⟩ := aG_int g6
  dsimp only at b6 d6
  obtain ⟨x7, rfl, b7, d7⟩ := aG_int g7
  dsimp only at b7 d7
  obtain ⟨x8, rfl, b8, d8⟩ := aG_int g8
  dsimp only at b8 d8
  obtain ⟨x9, rfl, b9, d9⟩ := aG_int g9
  dsimp only at b9 d9
  obtain ⟨x10, rfl, b10, d10⟩ := aG_int g10
  dsimp only at b10 d10
  obtain ⟨x11, rfl, b11, d11⟩ := aG_int g11
  dsimp only at b11 d11
  obtain ⟨x12, rfl, b12, d12⟩ := aG_int g12
  dsimp only at b12 d12
  obtain ⟨m1, m2, m3, m4⟩ := hM0
  obtain ⟨M, hM⟩ := rMe_ex hH b0 d0
  have l0 : 0 ≤ (1 * x3.toInt + (-1 * x2.toInt + 0)) + 16 := by
    obtain ⟨z, e6, e7⟩ := m3 ([(3, 1), (2, -1)], 16) (List.mem_of_getElem? (i := 0) rfl)
    obtain rfl : (1 * x3.toInt + (-1 * x2.toInt + 0)) = z := Option.some.inj (show some (1 * x3.toInt + (-1 * x2.toInt + 0)) = some z from e6)
    exact e7
  have l1 : 0 ≤ (-1 * x3.toInt + (1 * x2.toInt + 0)) + -16 := by
    obtain ⟨z, e6, e7⟩ := m3 ([(3, -1), (2, 1)], -16) (List.mem_of_getElem? (i := 1) rfl)
    obtain rfl : (-1 * x3.toInt + (1 * x2.toInt + 0)) = z := Option.some.inj (show some (-1 * x3.toInt + (1 * x2.toInt + 0)) = some z from e6)
    exact e7
  have l2 : 0 ≤ (1 * x9.toInt + (8 * x5.toInt + 0)) + -9 := by
    obtain ⟨z, e6, e7⟩ := m3 ([(9, 1), (5, 8)], -9) (List.mem_of_getElem? (i := 2) rfl)
    obtain rfl : (1 * x9.toInt + (8 * x5.toInt + 0)) = z := Option.some.inj (show some (1 * x9.toInt + (8 * x5.toInt + 0)) = some z from e6)
    exact e7
  have l3 : 0 ≤ (-1 * x9.toInt + (-8 * x5.toInt + 0)) + 9 := by
    obtain ⟨z, e6, e7⟩ := m3 ([(9, -1), (5, -8)], 9) (List.mem_of_getElem? (i := 3) rfl)
    obtain rfl : (-1 * x9.toInt + (-8 * x5.toInt + 0)) = z := Option.some.inj (show some (-1 * x9.toInt + (-8 * x5.toInt + 0)) = some z from e6)
    exact e7
  have l4 : 0 ≤ (1 * x2.toInt + (1 * x3.toInt + (-2 * x11.toInt + 0))) + 0 := by
    obtain ⟨z, e6, e7⟩ := m3 ([(2, 1), (3, 1), (11, -2)], 0) (List.mem_of_getElem? (i := 4) rfl)
    obtain rfl : (1 * x2.toInt + (1 * x3.toInt + (-2 * x11.toInt + 0))) = z := Option.some.inj (show some (1 * x2.toInt + (1 * x3.toInt + (-2 * x11.toInt + 0))) = some z from e6)
    exact e7
  have l5 : 0 ≤ (-1 * x2.toInt + (-1 * x3.toInt + (2 * x11.toInt + 0))) + 1 := by
    obtain ⟨z, e6, e7⟩ := m3 ([(2, -1), (3, -1), (11, 2)], 1) (List.mem_of_getElem? (i := 5) rfl)
    obtain rfl : (-1 * x2.toInt + (-1 * x3.toInt + (2 * x11.toInt + 0))) = z := Option.some.inj (show some (-1 * x2.toInt + (-1 * x3.toInt + (2 * x11.toInt + 0))) = some z from e6)
    exact e7
  have f0 : rB K n p 53 [rR x0, rI x1] σ := by
    obtain ⟨w, e6, e7⟩ := m4 (850, [0, 1]) (List.mem_of_getElem? (i := 0) rfl)
    obtain rfl : [rR x0, rI x1] = w := Option.some.inj (show some [rR x0, rI x1] = some w from e6)
    exact (rF_b (r := 850) (by decide) rfl).mp e7
  obtain ⟨M9, h9, f0⟩ := ro_53.mp f0
  obtain rfl := rMg_u hM h9
  clear h9
  have f1 : rB K n p 160 [rI x1, rI x2, rI x3, rI x4] σ := by
    obtain ⟨w, e6, e7⟩ := m4 (2564, [1, 2, 3, 4]) (List.mem_of_getElem? (i := 1) rfl)
    obtain rfl : [rI x1, rI x2, rI x3, rI x4] = w := Option.some.inj (show some [rI x1, rI x2, rI x3, rI x4] = some w from e6)
    exact (rF_b (r := 2564) (by decide) rfl).mp e7
  have f1 := ro_160.mp f1
  have f2 : rB K n p 79 [rI x1, rI x12] σ := by
    obtain ⟨w, e6, e7⟩ := m4 (1266, [1, 12]) (List.mem_of_getElem? (i := 2) rfl)
    obtain rfl : [rI x1, rI x12] = w := Option.some.inj (show some [rI x1, rI x12] = some w from e6)
    exact (rF_b (r := 1266) (by decide) rfl).mp e7
  have f2 := ro_79.mp f2
  have f3 : rB K n p 67 [rI x5] σ := by
    obtain ⟨w, e6, e7⟩ := m4 (1073, [5]) (List.mem_of_getElem? (i := 3) rfl)
    obtain rfl : [rI x5] = w := Option.some.inj (show some [rI x5] = some w from e6)
    exact (rF_b (r := 1073) (by decide) rfl).mp e7
  have f3 := ro_67.mp f3
  have f4 : rB K n p 120 [rI x3, rI x6, rI x7, rI x8] σ := by
    obtain ⟨w, e6, e7⟩ := m4 (1924, [3, 6, 7, 8]) (List.mem_of_getElem? (i := 4) rfl)
    obtain rfl : [rI x3, rI x6, rI x7, rI x8] = w := Option.some.inj (show some [rI x3, rI x6, rI x7, rI x8] = some w from e6)
    exact (rF_b (r := 1924) (by decide) rfl).mp e7
  have f4 := ro_120.mp f4
  have f5 : rB K n p 122 [rR x0, rI x8, rI x9, rI x10] σ := by
    obtain ⟨w, e6, e7⟩ := m4 (1956, [0, 8, 9, 10]) (List.mem_of_getElem? (i := 5) rfl)
    obtain rfl : [rR x0, rI x8, rI x9, rI x10] = w := Option.some.inj (show some [rR x0, rI x8, rI x9, rI x10] = some w from e6)
    exact (rF_b (r := 1956) (by decide) rfl).mp e7
  obtain ⟨M9, h9, f5⟩ := ro_122.mp f5
  obtain rfl := rMg_u hM h9
  clear h9
  clear m1 m2 m3 m4
  have q0 : rB K n p 71 [rI x1, rI x11] σ := ro_71.mpr (by
    have hn : rNbr (rM4 p.1 x1.toInt) (rTo x1.toInt) (-1) (1 + 8 * (1 - p.1.2.1)) := by
      unfold rNbr
      rw [← f0.2, ← f1.2.1, show rSp x3.toInt (-1) 0 = x8.toInt by rw [f4, show x6.toInt = -1 by omega, show x7.toInt = 0 by omega]]
      omega
    unfold rNp
    rw [if_pos ⟨⟨by omega, by rw [← f1.1, ← f1.2.1]; omega⟩, Or.inl hn⟩, ← f1.1, ← f1.2.1]
    omega)
  exact ⟨p, fun _ => rfl, ⟨(fun q h => by cases h), fun q h => (by cases h), (fun f h => by cases h), (aAllc ⟨_, rfl, (rF_b (r := 1138) (by decide) rfl).mpr q0⟩ (fun f h => by cases h))⟩, [], List.mem_cons_self, fun f h => (by cases h)⟩
theorem rw_rvNPyrd {K : Nat → Nat} {n : Nat} {JX : (Nat → jcell) → Prop} : aGho (rF K n) fa_T K n JX ag_rvNPyrd := by
  refine aGho_of ⟨rfl, rfl⟩ ?_
  intro p σ ρ hH hX hA hM0
  have hG := aAG_of hA.1 (fun i e v he hv => (hA.2 i e v he hv).1)
  clear hA
  obtain ⟨v0, v1, v2, v3, v4, v5, v6, v7, v8, v9, v10, v11, v12, rfl, g0, g1, g2, g3, g4, g5, g6, g7, g8, g9, g10, g11, g12⟩ := rA_13 hG
  clear hG
  obtain ⟨x0, rfl, b0, d0⟩ := rG_ref (by decide) g0
  obtain ⟨x1, rfl, b1, d1⟩ := aG_int g1
  dsimp only at b1 d1
  obtain ⟨x2, rfl, b2, d2⟩ := aG_int g2
  dsimp only at b2 d2
  obtain ⟨x3, rfl, b3, d3⟩ := aG_int g3
  dsimp only at b3 d3
  obtain ⟨x4, rfl, b4, d4⟩ := aG_int g4
  dsimp only at b4 d4
  obtain ⟨x5, rfl, b5, d5⟩ := aG_int g5
  dsimp only at b5 d5
  obtain ⟨x6, rfl, b6, d6⟩ := aG_int g6
  dsimp only at b6 d6
  obtain ⟨x7, rfl, b7, d7⟩ := aG_int g7
  dsimp only at b7 d7
  obtain ⟨x8, rfl, b8, d8⟩ := aG_int g8
  dsimp only at b8 d8
  obtain ⟨x9, rfl, b9, d9⟩ := aG_int g9
  dsimp only at b9 d9
  obtain ⟨x10, rfl, b10, d10⟩ := aG_int g10
  dsimp only at b10 d10
  obtain ⟨x11, rfl, b11, d11⟩ := aG_int g11
  dsimp only at b11 d11
  obtain ⟨x12, rfl, b12, d12⟩ := aG_int g12
  dsimp only at b12 d12
  obtain ⟨m1, m2, m3, m4⟩ := hM0
  obtain ⟨M, hM⟩ := rMe_ex hH b0 d0
  have l0 : 0 ≤ (1 * x3.toInt + (-1 * x2.toInt + 0)) + 16 := by
    obtain ⟨z, e6, e7⟩ := m3 ([(3, 1), (2, -1)], 16) (List.mem_of_getElem? (i := 0) rfl)
    obtain rfl : (1 * x3.toInt + (-1 * x2.toInt + 0)) = z := Option.some.inj (show some (1 * x3.toInt + (-1 * x2.toInt + 0)) = some z from e6)
    exact e7
  have l1 : 0 ≤ (-1 * x3.toInt + (1 * x2.toInt + 0)) + -16 := by
    obtain ⟨z, e6, e7⟩ := m3 ([(3, -1), (2, 1)], -16) (List.mem_of_getElem? (i := 1) rfl)
    obtain rfl : (-1 * x3.toInt + (1 * x2.toInt + 0)) = z := Option.some.inj (show some (-1 * x3.toInt + (1 * x2.toInt + 0)) = some z from e6)
    exact e7
  have l2 : 0 ≤ (1 * x9.toInt + (8 * x5.toInt + 0)) + -9 := by
    obtain ⟨z, e6, e7⟩ := m3 ([(9, 1), (5, 8)], -9) (List.mem_of_getElem? (i := 2) rfl)
    obtain rfl : (1 * x9.toInt + (8 * x5.toInt + 0)) = z := Option.some.inj (show some (1 * x9.toInt + (8 * x5.toInt + 0)) = some z from e6)
    exact e7
  have l3 : 0 ≤ (-1 * x9.toInt + (-8 * x5.toInt + 0)) + 9 := by
    obtain ⟨z, e6, e7⟩ := m3 ([(9, -1), (5, -8)], 9) (List.mem_of_getElem? (i := 3) rfl)
    obtain rfl : (-1 * x9.toInt + (-8 * x5.toInt + 0)) = z := Option.some.inj (show some (-1 * x9.toInt + (-8 * x5.toInt + 0)) = some z from e6)
    exact e7
  have l4 : 0 ≤ (1 * x2.toInt + (1 * x3.toInt + (-2 * x11.toInt + 0))) + 0 := by
    obtain ⟨z, e6, e7⟩ := m3 ([(2, 1), (3, 1), (11, -2)], 0) (List.mem_of_getElem? (i := 4) rfl)
    obtain rfl : (1 * x2.toInt + (1 * x3.toInt + (-2 * x11.toInt + 0))) = z := Option.some.inj (show some (1 * x2.toInt + (1 * x3.toInt + (-2 * x11.toInt + 0))) = some z from e6)
    exact e7
  have l5 : 0 ≤ (-1 * x2.toInt + (-1 * x3.toInt + (2 * x11.toInt + 0))) + 1 := by
    obtain ⟨z, e6, e7⟩ := m3 ([(2, -1), (3, -1), (11, 2)], 1) (List.mem_of_getElem? (i := 5) rfl)
    obtain rfl : (-1 * x2.toInt + (-1 * x3.toInt + (2 * x11.toInt + 0))) = z := Option.some.inj (show some (-1 * x2.toInt + (-1 * x3.toInt + (2 * x11.toInt + 0))) = some z from e6)
    exact e7
  have f0 : rB K n p 53 [rR x0, rI x1] σ := by
    obtain ⟨w, e6, e7⟩ := m4 (850, [0, 1]) (List.mem_of_getElem? (i := 0) rfl)
    obtain rfl : [rR x0, rI x1] = w := Option.some.inj (show some [rR x0, rI x1] = some w from e6)
    exact (rF_b (r := 850) (by decide) rfl).mp e7
  obtain ⟨M9, h9, f0⟩ := ro_53.mp f0
  obtain rfl := rMg_u hM h9
  clear h9
  have f1 : rB K n p 160 [rI x1, rI x2, rI x3, rI x4] σ := by
    obtain ⟨w, e6, e7⟩ := m4 (2564, [1, 2, 3, 4]) (List.mem_of_getElem? (i := 1) rfl)
    obtain rfl : [rI x1, rI x2, rI x3, rI x4] = w := Option.some.inj (show some [rI x1, rI x2, rI x3, rI x4] = some w from e6)
    exact (rF_b (r := 2564) (by decide) rfl).mp e7
  have f1 := ro_160.mp f1
  have f2 : rB K n p 79 [rI x1, rI x12] σ := by
    obtain ⟨w, e6, e7⟩ := m4 (1266, [1, 12]) (List.mem_of_getElem? (i := 2) rfl)
    obtain rfl : [rI x1, rI x12] = w := Option.some.inj (show some [rI x1, rI x12] = some w from e6)
    exact (rF_b (r := 1266) (by decide) rfl).mp e7
  have f2 := ro_79.mp f2
  have f3 : rB K n p 67 [rI x5] σ := by
    obtain ⟨w, e6, e7⟩ := m4 (1073, [5]) (List.mem_of_getElem? (i := 3) rfl)
    obtain rfl : [rI x5] = w := Option.some.inj (show some [rI x5] = some w from e6)
    exact (rF_b (r := 1073) (by decide) rfl).mp e7
  have f3 := ro_67.mp f3
  have f4 : rB K n p 120 [rI x3, rI x6, rI x7, rI x8] σ := by
    obtain ⟨w, e6, e7⟩ := m4 (1924, [3, 6, 7, 8]) (List.mem_of_getElem? (i := 4) rfl)
    obtain rfl : [rI x3, rI x6, rI x7, rI x8] = w := Option.some.inj (show some [rI x3, rI x6, rI x7, rI x8] = some w from e6)
    exact (rF_b (r := 1924) (by decide) rfl).mp e7
  have f4 := ro_120.mp f4
  have f5 : rB K n p 122 [rR x0, rI x8, rI x9, rI x10] σ := by
    obtain ⟨w, e6, e7⟩ := m4 (1956, [0, 8, 9, 10]) (List.mem_of_getElem? (i := 5) rfl)
    obtain rfl : [rR x0, rI x8, rI x9, rI x10] = w := Option.some.inj (show some [rR x0, rI x8, rI x9, rI x10] = some w from e6)
    exact (rF_b (r := 1956) (by decide) rfl).mp e7
  obtain ⟨M9, h9, f5⟩ := ro_122.mp f5
  obtain rfl := rMg_u hM h9
  clear h9
  clear m1 m2 m3 m4
  have q0 : rB K n p 71 [rI x1, rI x11] σ := ro_71.mpr (by
    have hn : rNbr (rM4 p.1 x1.toInt) (rTo x1.toInt) (1) (1 + 8 * (1 - p.1.2.1)) := by
      unfold rNbr
      rw [← f0.2, ← f1.2.1, show rSp x3.toInt (1) 0 = x8.toInt by rw [f4, show x6.toInt = 1 by omega, show x7.toInt = 0 by omega]]
      omega
    unfold rNp
    rw [if_pos ⟨⟨by omega, by rw [← f1.1, ← f1.2.1]; omega⟩, Or.inr hn⟩, ← f1.1, ← f1.2.1]
    omega)
  exact ⟨p, fun _ => rfl, ⟨(fun q h => by cases h), fun q h => (by cases h), (fun f h => by cases h), (aAllc ⟨_, rfl, (rF_b (r := 1138) (by decide) rfl).mpr q0⟩ (fun f h => by cases h))⟩, [], List.mem_cons_self, fun f h => (by cases h)⟩
theorem rw_rvNPnd {K : Nat → Nat} {n : Nat} {JX : (Nat → jcell) → Prop} : aGho (rF K n) fa_T K n JX ag_rvNPnd := by
  refine aGho_of ⟨rfl, rfl⟩ ?_
  intro p σ ρ hH hX hA hM0
  have hG := aAG_of hA.1 (fun i e v he hv => (hA.2 i e v he hv).1)
  clear hA
  obtain ⟨v0, v1, v2, v3, v4, v5, v6, v7, v8, v9, v10, v11, v12, rfl, g0, g1, g2, g3, g4, g5, g6, g7, g8, g9, g10, g11, g12⟩ := rA_13 hG
  clear hG
  obtain ⟨x0, rfl, b0, d0⟩ := rG_ref (by decide) g0
  obtain ⟨x1, rfl, b1, d1⟩ := aG_int g1
  dsimp only at b1 d1
  obtain ⟨x2, rfl, b2, d2⟩ := aG_int g2
  dsimp only at b2 d2
  obtain ⟨x3, rfl, b3, d3⟩ := aG_int g3
  dsimp only at b3 d3
  obtain ⟨x4, rfl, b4, d4⟩ := aG_int g4
  dsimp only at b4 d4
  obtain ⟨x5, rfl, b5, d5⟩ := aG_int g5
  dsimp only at b5 d5
  obtain ⟨x6, rfl, b6, d6⟩ := aG_int g6
  dsimp only at b6 d6
  obtain ⟨x7, rfl, b7, d7⟩ := aG_int g7
  dsimp only at b7 d7
  obtain ⟨x8, rfl, b8, d8⟩ := aG_int g8
  dsimp only at b8 d8
  obtain ⟨x9, rfl, b9, d9⟩ := aG_int g9
  dsimp only at b9 d9
  obtain ⟨x10, rfl, b10, d10⟩ := aG_int g10
  dsimp only at b10 d10
  obtain ⟨x11, rfl, b11, d11⟩ := aG_int g11
  dsimp only at b11 d11
  obtain ⟨x12, rfl, b12, d12⟩ := aG_int g12
  dsimp only at b12 d12
  obtain ⟨m1, m2, m3, m4⟩ := hM0
  obtain ⟨M, hM⟩ := rMe_ex hH b0 d0
  have l0 : 0 ≤ (1 * x3.toInt + (-1 * x2.toInt + 0)) + 16 := by
    obtain ⟨z, e6, e7⟩ := m3 ([(3, 1), (2, -1)], 16) (List.mem_of_getElem? (i := 0) rfl)
    obtain rfl : (1 * x3.toInt + (-1 * x2.toInt + 0)) = z := Option.some.inj (show some (1 * x3.toInt + (-1 * x2.toInt + 0)) = some z from e6)
    exact e7
  have l1 : 0 ≤ (-1 * x3.toInt + (1 * x2.toInt + 0)) + -16 := by
    obtain ⟨z, e6, e7⟩ := m3 ([(3, -1), (2, 1)], -16) (List.mem_of_getElem? (i := 1) rfl)
    obtain rfl : (-1 * x3.toInt + (1 * x2.toInt + 0)) = z := Option.some.inj (show some (-1 * x3.toInt + (1 * x2.toInt + 0)) = some z from e6)
    exact e7
  have l2 : 0 ≤ (1 * x9.toInt + (8 * x5.toInt + 0)) + -9 := by
    obtain ⟨z, e6, e7⟩ := m3 ([(9, 1), (5, 8)], -9) (List.mem_of_getElem? (i := 2) rfl)
    obtain rfl : (1 * x9.toInt + (8 * x5.toInt + 0)) = z := Option.some.inj (show some (1 * x9.toInt + (8 * x5.toInt + 0)) = some z from e6)
    exact e7
  have l3 : 0 ≤ (-1 * x9.toInt + (-8 * x5.toInt + 0)) + 9 := by
    obtain ⟨z, e6, e7⟩ := m3 ([(9, -1), (5, -8)], 9) (List.mem_of_getElem? (i := 3) rfl)
    obtain rfl : (-1 * x9.toInt + (-8 * x5.toInt + 0)) = z := Option.some.inj (show some (-1 * x9.toInt + (-8 * x5.toInt + 0)) = some z from e6)
    exact e7
  have f0 : rB K n p 53 [rR x0, rI x1] σ := by
    obtain ⟨w, e6, e7⟩ := m4 (850, [0, 1]) (List.mem_of_getElem? (i := 0) rfl)
    obtain rfl : [rR x0, rI x1] = w := Option.some.inj (show some [rR x0, rI x1] = some w from e6)
    exact (rF_b (r := 850) (by decide) rfl).mp e7
  obtain ⟨M9, h9, f0⟩ := ro_53.mp f0
  obtain rfl := rMg_u hM h9
  clear h9
  have f1 : rB K n p 160 [rI x1, rI x2, rI x3, rI x4] σ := by
    obtain ⟨w, e6, e7⟩ := m4 (2564, [1, 2, 3, 4]) (List.mem_of_getElem? (i := 1) rfl)
    obtain rfl : [rI x1, rI x2, rI x3, rI x4] = w := Option.some.inj (show some [rI x1, rI x2, rI x3, rI x4] = some w from e6)
    exact (rF_b (r := 2564) (by decide) rfl).mp e7
  have f1 := ro_160.mp f1
  have f2 : rB K n p 79 [rI x1, rI x12] σ := by
    obtain ⟨w, e6, e7⟩ := m4 (1266, [1, 12]) (List.mem_of_getElem? (i := 2) rfl)
    obtain rfl : [rI x1, rI x12] = w := Option.some.inj (show some [rI x1, rI x12] = some w from e6)
    exact (rF_b (r := 1266) (by decide) rfl).mp e7
  have f2 := ro_79.mp f2
  have f3 : rB K n p 67 [rI x5] σ := by
    obtain ⟨w, e6, e7⟩ := m4 (1073, [5]) (List.mem_of_getElem? (i := 3) rfl)
    obtain rfl : [rI x5] = w := Option.some.inj (show some [rI x5] = some w from e6)
    exact (rF_b (r := 1073) (by decide) rfl).mp e7
  have f3 := ro_67.mp f3
  have f4 : rB K n p 72 [rI x1] σ := by
    obtain ⟨w, e6, e7⟩ := m4 (1153, [1]) (List.mem_of_getElem? (i := 4) rfl)
    obtain rfl : [rI x1] = w := Option.some.inj (show some [rI x1] = some w from e6)
    exact (rF_b (r := 1153) (by decide) rfl).mp e7
  have f4 := ro_72.mp f4
  have f5 : rB K n p 120 [rI x3, rI x6, rI x7, rI x8] σ := by
    obtain ⟨w, e6, e7⟩ := m4 (1924, [3, 6, 7, 8]) (List.mem_of_getElem? (i := 5) rfl)
    obtain rfl : [rI x3, rI x6, rI x7, rI x8] = w := Option.some.inj (show some [rI x3, rI x6, rI x7, rI x8] = some w from e6)
    exact (rF_b (r := 1924) (by decide) rfl).mp e7
  have f5 := ro_120.mp f5
  have f6 : rB K n p 122 [rR x0, rI x8, rI x9, rI x10] σ := by
    obtain ⟨w, e6, e7⟩ := m4 (1956, [0, 8, 9, 10]) (List.mem_of_getElem? (i := 6) rfl)
    obtain rfl : [rR x0, rI x8, rI x9, rI x10] = w := Option.some.inj (show some [rR x0, rI x8, rI x9, rI x10] = some w from e6)
    exact (rF_b (r := 1956) (by decide) rfl).mp e7
  obtain ⟨M9, h9, f6⟩ := ro_122.mp f6
  obtain rfl := rMg_u hM h9
  clear h9
  clear m1 m2 m3 m4
  have q0 : rB K n p 71 [rI x1, rI x11] σ := ro_71.mpr (by
    have hn : ¬ rNbr (rM4 p.1 x1.toInt) (rTo x1.toInt) 1 (1 + 8 * (1 - p.1.2.1)) := by
      unfold rNbr
      rw [← f0.2, ← f1.2.1, show rSp x3.toInt 1 0 = x8.toInt by rw [f5, show x6.toInt = 1 by omega, show x7.toInt = 0 by omega]]
      omega
    unfold rNp
    rw [if_neg (fun h => h.2.elim f4 hn)]
    omega)
  exact ⟨p, fun _ => rfl, ⟨(fun q h => by cases h), fun q h => (by cases h), (fun f h => by cases h), (aAllc ⟨_, rfl, (rF_b (r := 1138) (by decide) rfl).mpr q0⟩ (fun f h => by cases h))⟩, [], List.mem_cons_self, fun f h => (by cases h)⟩
theorem rw_rvNH1 {K : Nat → Nat} {n : Nat} {JX : (Nat → jcell) → Prop} : aGho (rF K n) fa_T K n JX ag_rvNH1 := by
  refine aGho_of ⟨rfl, rfl⟩ ?_
  intro p σ ρ hH hX hA hM0
  have hG := aAG_of hA.1 (fun i e v he hv => (hA.2 i e v he hv).1)
  clear hA
  obtain ⟨v0, v1, v2, v3, v4, v5, v6, v7, v8, v9, v10, rfl, g0, g1, g2, g3, g4, g5, g6, g7, g8, g9, g10⟩ := rA_11 hG
  clear hG
  obtain ⟨x0, rfl, b0, d0⟩ := rG_ref (by decide) g0
  obtain ⟨x1, rfl, b1, d1⟩ := aG_int g1
  dsimp only at b1 d1
  obtain ⟨x2, rfl, b2, d2⟩ := aG_int g2
  dsimp only at b2 d2
  obtain ⟨x3, rfl, b3, d3⟩ := aG_int g3
  dsimp only at b3 d3
  obtain ⟨x4, rfl, b4, d4⟩ := aG_int g4
  dsimp only at b4 d4
  obtain ⟨x5, rfl, b5, d5⟩ := aG_int g5
  dsimp only at b5 d5
  obtain ⟨x6, rfl, b6, d6⟩ := aG_int g6
  dsimp only at b6 d6
  obtain ⟨x7, rfl, b7, d7⟩ := aG_int g7
  dsimp only at b7 d7
  obtain ⟨x8, rfl, b8, d8⟩ := aG_int g8
  dsimp only at b8 d8
  obtain ⟨x9, rfl, b9, d9⟩ := aG_int g9
  dsimp only at b9 d9
  obtain ⟨x10, rfl, b10, d10⟩ := aG_int g10
  dsimp only at b10 d10
  obtain ⟨m1, m2, m3, m4⟩ := hM0
  obtain ⟨M, hM⟩ := rMe_ex hH b0 d0
  have l0 : 0 ≤ (1 * x9.toInt + (8 * x5.toInt + 0)) + -9 := by
    obtain ⟨z, e6, e7⟩ := m3 ([(9, 1), (5, 8)], -9) (List.mem_of_getElem? (i := 0) rfl)
    obtain rfl : (1 * x9.toInt + (8 * x5.toInt + 0)) = z := Option.some.inj (show some (1 * x9.toInt + (8 * x5.toInt + 0)) = some z from e6)
    exact e7
  have l1 : 0 ≤ (-1 * x9.toInt + (-8 * x5.toInt + 0)) + 9 := by
    obtain ⟨z, e6, e7⟩ := m3 ([(9, -1), (5, -8)], 9) (List.mem_of_getElem? (i := 1) rfl)
    obtain rfl : (-1 * x9.toInt + (-8 * x5.toInt + 0)) = z := Option.some.inj (show some (-1 * x9.toInt + (-8 * x5.toInt + 0)) = some z from e6)
    exact e7
  have f0 : rB K n p 53 [rR x0, rI x1] σ := by
    obtain ⟨w, e6, e7⟩ := m4 (850, [0, 1]) (List.mem_of_getElem? (i := 0) rfl)
    obtain rfl : [rR x0, rI x1] = w := Option.some.inj (show some [rR x0, rI x1] = some w from e6)
    exact (rF_b (r := 850) (by decide) rfl).mp e7
  obtain ⟨M9, h9, f0⟩ := ro_53.mp f0
  obtain rfl := rMg_u hM h9
  clear h9
  have f1 : rB K n p 160 [rI x1, rI x2, rI x3, rI x4] σ := by
    obtain ⟨w, e6, e7⟩ := m4 (2564, [1, 2, 3, 4]) (List.mem_of_getElem? (i := 1) rfl)
    obtain rfl : [rI x1, rI x2, rI x3, rI x4] = w := Option.some.inj (show some [rI x1, rI x2, rI x3, rI x4] = some w from e6)
    exact (rF_b (r := 2564) (by decide) rfl).mp e7
  have f1 := ro_160.mp f1
  have f2 : rB K n p 67 [rI x5] σ := by
    obtain ⟨w, e6, e7⟩ := m4 (1073, [5]) (List.mem_of_getElem? (i := 2) rfl)
    obtain rfl : [rI x5] = w := Option.some.inj (show some [rI x5] = some w from e6)
    exact (rF_b (r := 1073) (by decide) rfl).mp e7
  have f2 := ro_67.mp f2
  have f3 : rB K n p 120 [rI x3, rI x6, rI x7, rI x8] σ := by
    obtain ⟨w, e6, e7⟩ := m4 (1924, [3, 6, 7, 8]) (List.mem_of_getElem? (i := 3) rfl)
    obtain rfl : [rI x3, rI x6, rI x7, rI x8] = w := Option.some.inj (show some [rI x3, rI x6, rI x7, rI x8] = some w from e6)
    exact (rF_b (r := 1924) (by decide) rfl).mp e7
  have f3 := ro_120.mp f3
  have f4 : rB K n p 122 [rR x0, rI x8, rI x9, rI x10] σ := by
    obtain ⟨w, e6, e7⟩ := m4 (1956, [0, 8, 9, 10]) (List.mem_of_getElem? (i := 4) rfl)
    obtain rfl : [rR x0, rI x8, rI x9, rI x10] = w := Option.some.inj (show some [rR x0, rI x8, rI x9, rI x10] = some w from e6)
    exact (rF_b (r := 1956) (by decide) rfl).mp e7
  obtain ⟨M9, h9, f4⟩ := ro_122.mp f4
  obtain rfl := rMg_u hM h9
  clear h9
  clear m1 m2 m3 m4
  have q0 : rB K n p 72 [rI x1] σ := ro_72.mpr (by
    unfold rNbr
    rw [← f0.2, ← f1.2.1, show rSp x3.toInt (-1) 0 = x8.toInt by rw [f3, show x6.toInt = -1 by omega, show x7.toInt = 0 by omega]]
    omega)
  exact ⟨p, fun _ => rfl, ⟨(fun q h => by cases h), fun q h => (by cases h), (fun f h => by cases h), (aAllc ⟨_, rfl, (rF_b (r := 1153) (by decide) rfl).mpr q0⟩ (fun f h => by cases h))⟩, [], List.mem_cons_self, fun f h => (by cases h)⟩
theorem rw_rvRX {K : Nat → Nat} {n : Nat} {JX : (Nat → jcell) → Prop} : aGho (rF K n) fa_T K n JX ag_rvRX := by
  refine aGho_of ⟨rfl, rfl⟩ ?_
  intro p σ ρ hH hX hA hM0
  have hG := aAG_of hA.1 (fun i e v he hv => (hA.2 i e v he hv).1)
  clear hA
  obtain ⟨v0, v1, v2, v3, v4, v5, rfl, g0, g1, g2, g3, g4, g5⟩ := rA_6 hG
  clear hG
  obtain ⟨x0, rfl, b0, d0⟩ := rG_ref (by decide) g0
  obtain ⟨x1, rfl, b1, d1⟩ := aG_int g1
  dsimp only at b1 d1
  obtain ⟨x2, rfl, b2, d2⟩ := aG_int g2
  dsimp only at b2 d2
  obtain ⟨x3, rfl, b3, d3⟩ := aG_int g3
  dsimp only at b3 d3
  obtain ⟨x4, rfl, b4, d4⟩ := aG_int g4
  dsimp only at b4 d4
  obtain ⟨x5, rfl, b5, d5⟩ := aG_int g5
  dsimp only at b5 d5
  obtain ⟨m1, m2, m3, m4⟩ := hM0
  obtain ⟨M, hM⟩ := rMe_ex hH b0 d0
  obtain ⟨a0, c0, fs0, w0, e1, s0, t0, e4⟩ := m1 (0, 3, 3) (List.mem_of_getElem? (i := 0) rfl)
  obtain rfl : x0 = a0 := Sum.inl.inj (Option.some.inj (Sum.inr.inj (Sum.inr.inj (Option.some.inj (show some (rR x0) = some _ from e1)))))
  obtain rfl : rI x3 = w0 := Option.some.inj (show some (rI x3) = some w0 from e4)
  clear e1 e4
  obtain ⟨a1, c1, fs1, w1, e1, s1, t1, e4⟩ := m1 (0, 4, 4) (List.mem_of_getElem? (i := 1) rfl)
  obtain rfl : x0 = a1 := Sum.inl.inj (Option.some.inj (Sum.inr.inj (Sum.inr.inj (Option.some.inj (show some (rR x0) = some _ from e1)))))
  obtain rfl : rI x4 = w1 := Option.some.inj (show some (rI x4) = some w1 from e4)
  clear e1 e4
  obtain ⟨a2, c2, fs2, w2, e1, s2, t2, e4⟩ := m1 (0, 5, 5) (List.mem_of_getElem? (i := 2) rfl)
  obtain rfl : x0 = a2 := Sum.inl.inj (Option.some.inj (Sum.inr.inj (Sum.inr.inj (Option.some.inj (show some (rR x0) = some _ from e1)))))
  obtain rfl : rI x5 = w2 := Option.some.inj (show some (rI x5) = some w2 from e4)
  clear e1 e4
  have l0 : 0 ≤ (1 * x2.toInt + (1 * x3.toInt + 0)) + -1 := by
    obtain ⟨z, e6, e7⟩ := m3 ([(2, 1), (3, 1)], -1) (List.mem_of_getElem? (i := 0) rfl)
    obtain rfl : (1 * x2.toInt + (1 * x3.toInt + 0)) = z := Option.some.inj (show some (1 * x2.toInt + (1 * x3.toInt + 0)) = some z from e6)
    exact e7
  have l1 : 0 ≤ (-1 * x2.toInt + (-1 * x3.toInt + 0)) + 1 := by
    obtain ⟨z, e6, e7⟩ := m3 ([(2, -1), (3, -1)], 1) (List.mem_of_getElem? (i := 1) rfl)
    obtain rfl : (-1 * x2.toInt + (-1 * x3.toInt + 0)) = z := Option.some.inj (show some (-1 * x2.toInt + (-1 * x3.toInt + 0)) = some z from e6)
    exact e7
  have f0 : rB K n p 53 [rR x0, rI x1] σ := by
    obtain ⟨w, e6, e7⟩ := m4 (850, [0, 1]) (List.mem_of_getElem? (i := 0) rfl)
    obtain rfl : [rR x0, rI x1] = w := Option.some.inj (show some [rR x0, rI x1] = some w from e6)
    exact (rF_b (r := 850) (by decide) rfl).mp e7
  obtain ⟨M9, h9, f0⟩ := ro_53.mp f0
  obtain rfl := rMg_u hM h9
  clear h9
  have f1 : rB K n p 67 [rI x2] σ := by
    obtain ⟨w, e6, e7⟩ := m4 (1073, [2]) (List.mem_of_getElem? (i := 1) rfl)
    obtain rfl : [rI x2] = w := Option.some.inj (show some [rI x2] = some w from e6)
    exact (rF_b (r := 1073) (by decide) rfl).mp e7
  have f1 := ro_67.mp f1
  have f2 : rB K n p 70 [rI x1, rI x4] σ := by
    obtain ⟨w, e6, e7⟩ := m4 (1122, [1, 4]) (List.mem_of_getElem? (i := 2) rfl)
    obtain rfl : [rI x1, rI x4] = w := Option.some.inj (show some [rI x1, rI x4] = some w from e6)
    exact (rF_b (r := 1122) (by decide) rfl).mp e7
  have f2 := ro_70.mp f2
  have f3 : rB K n p 71 [rI x1, rI x5] σ := by
    obtain ⟨w, e6, e7⟩ := m4 (1138, [1, 5]) (List.mem_of_getElem? (i := 3) rfl)
    obtain rfl : [rI x1, rI x5] = w := Option.some.inj (show some [rI x1, rI x5] = some w from e6)
    exact (rF_b (r := 1138) (by decide) rfl).mp e7
  have f3 := ro_71.mp f3
  clear m1 m2 m3 m4
  have q0 : rB K n (rSh rS1 p [rR x0, rI x1]) 22 [rR x0] σ := ro_22.mpr (by
    rw [rSh_mk f0.1]
    refine ⟨rfl, ?_, ⟨x3, ⟨b0, d0, _, _, s0, t0⟩, show x3.toInt = 1 - p.1.2.1 by omega⟩, ⟨x4, ⟨b0, d0, _, _, s1, t1⟩, f2⟩, ⟨x5, ⟨b0, d0, _, _, s2, t2⟩, f3⟩⟩
    have h := hM
    rw [f0.2] at h
    exact h)
  exact ⟨p, fun _ => rfl, ⟨(fun q h => by cases h), fun q h => (by cases h), (fun f h => by cases h), (aAllc ⟨_, rfl, (rF_g (r := 353) (by decide)).mpr q0⟩ (fun f h => by cases h))⟩, [], List.mem_cons_self, fun f h => (by cases h)⟩
theorem rw_rvU1 {K : Nat → Nat} {n : Nat} {JX : (Nat → jcell) → Prop} : aGho (rF K n) fa_T K n JX ag_rvU1 := by
  refine aGho_of ⟨rfl, rfl⟩ ?_
  intro p σ ρ hH hX hA hM0
  have hG := aAG_of hA.1 (fun i e v he hv => (hA.2 i e v he hv).1)
  clear hA
  obtain ⟨v0, v1, v2, v3, v4, rfl, g0, g1, g2, g3, g4⟩ := rA_5 hG
  clear hG
  obtain ⟨x0, rfl, b0, d0⟩ := rG_ref (by decide) g0
  obtain ⟨x1, rfl, b1, d1⟩ := aG_int g1
  dsimp only at b1 d1
  obtain ⟨x2, rfl, b2, d2⟩ := aG_int g2
  dsimp only at b2 d2
  obtain ⟨x3, rfl, b3, d3⟩ := aG_int g3
  dsimp only at b3 d3
  obtain ⟨x4, rfl, b4, d4⟩ := rG_ref (by decide) g4
  obtain ⟨m1, m2, m3, m4⟩ := hM0
  obtain ⟨M, hM⟩ := rMe_ex hH b0 d0
  obtain ⟨a0, c0, fs0, w0, e1, s0, t0, e4⟩ := m1 (0, 15, 4) (List.mem_of_getElem? (i := 0) rfl)
  obtain rfl : x0 = a0 := Sum.inl.inj (Option.some.inj (Sum.inr.inj (Sum.inr.inj (Option.some.inj (show some (rR x0) = some _ from e1)))))
  obtain rfl : rR x4 = w0 := Option.some.inj (show some (rR x4) = some w0 from e4)
  clear e1 e4
  obtain ⟨a, mc0, ty0, gc0, ic0, e1, sc0, jc0, e4, e5⟩ := m2 (4, ([(1, 1)], 0), 3) (List.mem_of_getElem? (i := 0) rfl)
  obtain rfl : x4 = a := Sum.inl.inj (Option.some.inj (Sum.inr.inj (Sum.inr.inj (Option.some.inj (show some (rR x4) = some _ from e1)))))
  obtain ⟨gc0, rfl⟩ : ∃ g, gc0 = .inl g := by
    rcases gc0 with g | g
    · exact ⟨g, rfl⟩
    · exact absurd (show some (rI x3) = some (.inr (.inl (g ic0))) from e5) (fun h => by cases h)
  have sc0 : σ x4 = .inl (ty0, mc0, .inl gc0) := sc0
  have ec0 : x3 = gc0 ic0 := Sum.inl.inj (Option.some.inj (show some (rI x3) = some _ from e5))
  have kc0 : (ic0 : Int) = (1 * x1.toInt + 0) + 0 := by
    obtain ⟨z, e6, e7⟩ := e4
    obtain rfl : (1 * x1.toInt + 0) = z := Option.some.inj (show some (1 * x1.toInt + 0) = some z from e6)
    exact e7
  clear e1 e4 e5
  have f0 : rB K n p 28 [rR x0, rI x1, rI x2] σ := by
    obtain ⟨w, e6, e7⟩ := m4 (451, [0, 1, 2]) (List.mem_of_getElem? (i := 0) rfl)
    obtain rfl : [rR x0, rI x1, rI x2] = w := Option.some.inj (show some [rR x0, rI x1, rI x2] = some w from e6)
    exact (rF_b (r := 451) (by decide) rfl).mp e7
  have f0 := ro_28.mp f0
  clear m1 m2 m3 m4
  have q0 : rB K n p 65 [rI x2, rI x3] σ := ro_65.mpr (by
    obtain ⟨-, hu0, hu⟩ := f0
    obtain ⟨g, h, e⟩ := hu.1
    have e1 := rRo_c (i := ic0) h s0 t0 sc0 ec0
    rw [show ic0 = x1.toInt.toNat by omega, e] at e1
    exact e1.symm)
  exact ⟨p, fun _ => rfl, ⟨(fun q h => by cases h), fun q h => (by cases h), (fun f h => by cases h), (aAllc ⟨_, rfl, (rF_b (r := 1042) (by decide) rfl).mpr q0⟩ (fun f h => by cases h))⟩, [], List.mem_cons_self, fun f h => (by cases h)⟩
theorem rw_rvU2 {K : Nat → Nat} {n : Nat} {JX : (Nat → jcell) → Prop} : aGho (rF K n) fa_T K n JX ag_rvU2 := by
  refine aGho_of ⟨rfl, rfl⟩ ?_
  intro p σ ρ hH hX hA hM0
  have hG := aAG_of hA.1 (fun i e v he hv => (hA.2 i e v he hv).1)
  clear hA
  obtain ⟨v0, v1, v2, v3, v4, rfl, g0, g1, g2, g3, g4⟩ := rA_5 hG
  clear hG
  obtain ⟨x0, rfl, b0, d0⟩ := rG_ref (by decide) g0
  obtain ⟨x1, rfl, b1, d1⟩ := aG_int g1
  dsimp only at b1 d1
  obtain ⟨x2, rfl, b2, d2⟩ := aG_int g2
  dsimp only at b2 d2
  obtain ⟨x3, rfl, b3, d3⟩ := aG_int g3
  dsimp only at b3 d3
  obtain ⟨x4, rfl, b4, d4⟩ := rG_ref (by decide) g4
  obtain ⟨m1, m2, m3, m4⟩ := hM0
  obtain ⟨M, hM⟩ := rMe_ex hH b0 d0
  obtain ⟨a0, c0, fs0, w0, e1, s0, t0, e4⟩ := m1 (0, 17, 4) (List.mem_of_getElem? (i := 0) rfl)
  obtain rfl : x0 = a0 := Sum.inl.inj (Option.some.inj (Sum.inr.inj (Sum.inr.inj (Option.some.inj (show some (rR x0) = some _ from e1)))))
  obtain rfl : rR x4 = w0 := Option.some.inj (show some (rR x4) = some w0 from e4)
  clear e1 e4
  obtain ⟨a, mc0, ty0, gc0, ic0, e1, sc0, jc0, e4, e5⟩ := m2 (4, ([(1, 1)], 0), 3) (List.mem_of_getElem? (i := 0) rfl)
  obtain rfl : x4 = a := Sum.inl.inj (Option.some.inj (Sum.inr.inj (Sum.inr.inj (Option.some.inj (show some (rR x4) = some _ from e1)))))
  obtain ⟨gc0, rfl⟩ : ∃ g, gc0 = .inl g := by
    rcases gc0 with g | g
    · exact ⟨g, rfl⟩
    · exact absurd (show some (rI x3) = some (.inr (.inl (g ic0))) from e5) (fun h => by cases h)
  have sc0 : σ x4 = .inl (ty0, mc0, .inl gc0) := sc0
  have ec0 : x3 = gc0 ic0 := Sum.inl.inj (Option.some.inj (show some (rI x3) = some _ from e5))
  have kc0 : (ic0 : Int) = (1 * x1.toInt + 0) + 0 := by
    obtain ⟨z, e6, e7⟩ := e4
    obtain rfl : (1 * x1.toInt + 0) = z := Option.some.inj (show some (1 * x1.toInt + 0) = some z from e6)
    exact e7
  clear e1 e4 e5
  have f0 : rB K n p 28 [rR x0, rI x1, rI x2] σ := by
    obtain ⟨w, e6, e7⟩ := m4 (451, [0, 1, 2]) (List.mem_of_getElem? (i := 0) rfl)
    obtain rfl : [rR x0, rI x1, rI x2] = w := Option.some.inj (show some [rR x0, rI x1, rI x2] = some w from e6)
    exact (rF_b (r := 451) (by decide) rfl).mp e7
  have f0 := ro_28.mp f0
  clear m1 m2 m3 m4
  have q0 : rB K n p 64 [rI x2, rI x3] σ := ro_64.mpr (by
    obtain ⟨-, hu0, hu⟩ := f0
    obtain ⟨g, h, e⟩ := hu.2.2.1
    have e1 := rRo_c (i := ic0) h s0 t0 sc0 ec0
    rw [show ic0 = x1.toInt.toNat by omega, e] at e1
    exact e1.symm)
  exact ⟨p, fun _ => rfl, ⟨(fun q h => by cases h), fun q h => (by cases h), (fun f h => by cases h), (aAllc ⟨_, rfl, (rF_b (r := 1026) (by decide) rfl).mpr q0⟩ (fun f h => by cases h))⟩, [], List.mem_cons_self, fun f h => (by cases h)⟩
theorem rw_rvU3 {K : Nat → Nat} {n : Nat} {JX : (Nat → jcell) → Prop} : aGho (rF K n) fa_T K n JX ag_rvU3 := by
  refine aGho_of ⟨rfl, rfl⟩ ?_
  intro p σ ρ hH hX hA hM0
  have hG := aAG_of hA.1 (fun i e v he hv => (hA.2 i e v he hv).1)
  clear hA
  obtain ⟨v0, v1, v2, v3, v4, rfl, g0, g1, g2, g3, g4⟩ := rA_5 hG
  clear hG
  obtain ⟨x0, rfl, b0, d0⟩ := rG_ref (by decide) g0
  obtain ⟨x1, rfl, b1, d1⟩ := aG_int g1
  dsimp only at b1 d1
  obtain ⟨x2, rfl, b2, d2⟩ := aG_int g2
  dsimp only at b2 d2
  obtain ⟨x3, rfl, b3, d3⟩ := aG_int g3
  dsimp only at b3 d3
  obtain ⟨x4, rfl, b4, d4⟩ := rG_ref (by decide) g4
  obtain ⟨m1, m2, m3, m4⟩ := hM0
  obtain ⟨M, hM⟩ := rMe_ex hH b0 d0
  obtain ⟨a0, c0, fs0, w0, e1, s0, t0, e4⟩ := m1 (0, 16, 4) (List.mem_of_getElem? (i := 0) rfl)
  obtain rfl : x0 = a0 := Sum.inl.inj (Option.some.inj (Sum.inr.inj (Sum.inr.inj (Option.some.inj (show some (rR x0) = some _ from e1)))))
  obtain rfl : rR x4 = w0 := Option.some.inj (show some (rR x4) = some w0 from e4)
  clear e1 e4
  obtain ⟨a, mc0, ty0, gc0, ic0, e1, sc0, jc0, e4, e5⟩ := m2 (4, ([(1, 1)], 0), 3) (List.mem_of_getElem? (i := 0) rfl)
  obtain rfl : x4 = a := Sum.inl.inj (Option.some.inj (Sum.inr.inj (Sum.inr.inj (Option.some.inj (show some (rR x4) = some _ from e1)))))
  obtain ⟨gc0, rfl⟩ : ∃ g, gc0 = .inl g := by
    rcases gc0 with g | g
    · exact ⟨g, rfl⟩
    · exact absurd (show some (rI x3) = some (.inr (.inl (g ic0))) from e5) (fun h => by cases h)
  have sc0 : σ x4 = .inl (ty0, mc0, .inl gc0) := sc0
  have ec0 : x3 = gc0 ic0 := Sum.inl.inj (Option.some.inj (show some (rI x3) = some _ from e5))
  have kc0 : (ic0 : Int) = (1 * x1.toInt + 0) + 0 := by
    obtain ⟨z, e6, e7⟩ := e4
    obtain rfl : (1 * x1.toInt + 0) = z := Option.some.inj (show some (1 * x1.toInt + 0) = some z from e6)
    exact e7
  clear e1 e4 e5
  have f0 : rB K n p 28 [rR x0, rI x1, rI x2] σ := by
    obtain ⟨w, e6, e7⟩ := m4 (451, [0, 1, 2]) (List.mem_of_getElem? (i := 0) rfl)
    obtain rfl : [rR x0, rI x1, rI x2] = w := Option.some.inj (show some [rR x0, rI x1, rI x2] = some w from e6)
    exact (rF_b (r := 451) (by decide) rfl).mp e7
  have f0 := ro_28.mp f0
  clear m1 m2 m3 m4
  have q0 : rB K n p 66 [rI x2, rI x3] σ := ro_66.mpr (by
    obtain ⟨-, hu0, hu⟩ := f0
    obtain ⟨g, h, e⟩ := hu.2.1
    have e1 := rRo_c (i := ic0) h s0 t0 sc0 ec0
    rw [show ic0 = x1.toInt.toNat by omega, e] at e1
    exact e1.symm)
  exact ⟨p, fun _ => rfl, ⟨(fun q h => by cases h), fun q h => (by cases h), (fun f h => by cases h), (aAllc ⟨_, rfl, (rF_b (r := 1058) (by decide) rfl).mpr q0⟩ (fun f h => by cases h))⟩, [], List.mem_cons_self, fun f h => (by cases h)⟩
theorem rw_rvU4 {K : Nat → Nat} {n : Nat} {JX : (Nat → jcell) → Prop} : aGho (rF K n) fa_T K n JX ag_rvU4 := by
  refine aGho_of ⟨rfl, rfl⟩ ?_
  intro p σ ρ hH hX hA hM0
  have hG := aAG_of hA.1 (fun i e v he hv => (hA.2 i e v he hv).1)
  clear hA
  obtain ⟨v0, v1, v2, v3, v4, rfl, g0, g1, g2, g3, g4⟩ := rA_5 hG
  clear hG
  obtain ⟨x0, rfl, b0, d0⟩ := rG_ref (by decide) g0
  obtain ⟨x1, rfl, b1, d1⟩ := aG_int g1
  dsimp only at b1 d1
  obtain ⟨x2, rfl, b2, d2⟩ := aG_int g2
  dsimp only at b2 d2
  obtain ⟨x3, rfl, b3, d3⟩ := aG_int g3
  dsimp only at b3 d3
  obtain ⟨x4, rfl, b4, d4⟩ := rG_ref (by decide) g4
  obtain ⟨m1, m2, m3, m4⟩ := hM0
  obtain ⟨M, hM⟩ := rMe_ex hH b0 d0
  obtain ⟨a0, c0, fs0, w0, e1, s0, t0, e4⟩ := m1 (0, 18, 4) (List.mem_of_getElem? (i := 0) rfl)
  obtain rfl : x0 = a0 := Sum.inl.inj (Option.some.inj (Sum.inr.inj (Sum.inr.inj (Option.some.inj (show some (rR x0) = some _ from e1)))))
  obtain rfl : rR x4 = w0 := Option.some.inj (show some (rR x4) = some w0 from e4)
  clear e1 e4
  obtain ⟨a, mc0, ty0, gc0, ic0, e1, sc0, jc0, e4, e5⟩ := m2 (4, ([(1, 1)], 0), 3) (List.mem_of_getElem? (i := 0) rfl)
  obtain rfl : x4 = a := Sum.inl.inj (Option.some.inj (Sum.inr.inj (Sum.inr.inj (Option.some.inj (show some (rR x4) = some _ from e1)))))
  obtain ⟨gc0, rfl⟩ : ∃ g, gc0 = .inl g := by
    rcases gc0 with g | g
    · exact ⟨g, rfl⟩
    · exact absurd (show some (rI x3) = some (.inr (.inl (g ic0))) from e5) (fun h => by cases h)
  have sc0 : σ x4 = .inl (ty0, mc0, .inl gc0) := sc0
  have ec0 : x3 = gc0 ic0 := Sum.inl.inj (Option.some.inj (show some (rI x3) = some _ from e5))
  have kc0 : (ic0 : Int) = (1 * x1.toInt + 0) + 0 := by
    obtain ⟨z, e6, e7⟩ := e4
    obtain rfl : (1 * x1.toInt + 0) = z := Option.some.inj (show some (1 * x1.toInt + 0) = some z from e6)
    exact e7
  clear e1 e4 e5
  have f0 : rB K n p 28 [rR x0, rI x1, rI x2] σ := by
    obtain ⟨w, e6, e7⟩ := m4 (451, [0, 1, 2]) (List.mem_of_getElem? (i := 0) rfl)
    obtain rfl : [rR x0, rI x1, rI x2] = w := Option.some.inj (show some [rR x0, rI x1, rI x2] = some w from e6)
    exact (rF_b (r := 451) (by decide) rfl).mp e7
  have f0 := ro_28.mp f0
  clear m1 m2 m3 m4
  have q0 : rB K n p 68 [rI x3] σ := ro_68.mpr (by
    obtain ⟨-, hu0, hu⟩ := f0
    obtain ⟨g, h, e⟩ := hu.2.2.2.1
    have e1 := rRo_c (i := ic0) h s0 t0 sc0 ec0
    rw [show ic0 = x1.toInt.toNat by omega, e] at e1
    exact e1.symm)
  exact ⟨p, fun _ => rfl, ⟨(fun q h => by cases h), fun q h => (by cases h), (fun f h => by cases h), (aAllc ⟨_, rfl, (rF_b (r := 1089) (by decide) rfl).mpr q0⟩ (fun f h => by cases h))⟩, [], List.mem_cons_self, fun f h => (by cases h)⟩
theorem rw_rvU5 {K : Nat → Nat} {n : Nat} {JX : (Nat → jcell) → Prop} : aGho (rF K n) fa_T K n JX ag_rvU5 := by
  refine aGho_of ⟨rfl, rfl⟩ ?_
  intro p σ ρ hH hX hA hM0
  have hG := aAG_of hA.1 (fun i e v he hv => (hA.2 i e v he hv).1)
  clear hA
  obtain ⟨v0, v1, v2, v3, v4, rfl, g0, g1, g2, g3, g4⟩ := rA_5 hG
  clear hG
  obtain ⟨x0, rfl, b0, d0⟩ := rG_ref (by decide) g0
  obtain ⟨x1, rfl, b1, d1⟩ := aG_int g1
  dsimp only at b1 d1
  obtain ⟨x2, rfl, b2, d2⟩ := aG_int g2
  dsimp only at b2 d2
  obtain ⟨x3, rfl, b3, d3⟩ := aG_int g3
  dsimp only at b3 d3
  obtain ⟨x4, rfl, b4, d4⟩ := rG_ref (by decide) g4
  obtain ⟨m1, m2, m3, m4⟩ := hM0
  obtain ⟨M, hM⟩ := rMe_ex hH b0 d0
  obtain ⟨a0, c0, fs0, w0, e1, s0, t0, e4⟩ := m1 (0, 19, 4) (List.mem_of_getElem? (i := 0) rfl)
  obtain rfl : x0 = a0 := Sum.inl.inj (Option.some.inj (Sum.inr.inj (Sum.inr.inj (Option.some.inj (show some (rR x0) = some _ from e1)))))
  obtain rfl : rR x4 = w0 := Option.some.inj (show some (rR x4) = some w0 from e4)
  clear e1 e4
  obtain ⟨a, mc0, ty0, gc0, ic0, e1, sc0, jc0, e4, e5⟩ := m2 (4, ([(1, 1)], 0), 3) (List.mem_of_getElem? (i := 0) rfl)
  obtain rfl : x4 = a := Sum.inl.inj (Option.some.inj (Sum.inr.inj (Sum.inr.inj (Option.some.inj (show some (rR x4) = some _ from e1)))))
  obtain ⟨gc0, rfl⟩ : ∃ g, gc0 = .inl g := by
    rcases gc0 with g | g
    · exact ⟨g, rfl⟩
    · exact absurd (show some (rI x3) = some (.inr (.inl (g ic0))) from e5) (fun h => by cases h)
  have sc0 : σ x4 = .inl (ty0, mc0, .inl gc0) := sc0
  have ec0 : x3 = gc0 ic0 := Sum.inl.inj (Option.some.inj (show some (rI x3) = some _ from e5))
  have kc0 : (ic0 : Int) = (1 * x1.toInt + 0) + 0 := by
    obtain ⟨z, e6, e7⟩ := e4
    obtain rfl : (1 * x1.toInt + 0) = z := Option.some.inj (show some (1 * x1.toInt + 0) = some z from e6)
    exact e7
  clear e1 e4 e5
  have f0 : rB K n p 28 [rR x0, rI x1, rI x2] σ := by
    obtain ⟨w, e6, e7⟩ := m4 (451, [0, 1, 2]) (List.mem_of_getElem? (i := 0) rfl)
    obtain rfl : [rR x0, rI x1, rI x2] = w := Option.some.inj (show some [rR x0, rI x1, rI x2] = some w from e6)
    exact (rF_b (r := 451) (by decide) rfl).mp e7
  have f0 := ro_28.mp f0
  clear m1 m2 m3 m4
  have q0 : rB K n p 69 [rI x3] σ := ro_69.mpr (by
    obtain ⟨-, hu0, hu⟩ := f0
    obtain ⟨g, h, e⟩ := hu.2.2.2.2
    have e1 := rRo_c (i := ic0) h s0 t0 sc0 ec0
    rw [show ic0 = x1.toInt.toNat by omega, e] at e1
    exact e1.symm)
  exact ⟨p, fun _ => rfl, ⟨(fun q h => by cases h), fun q h => (by cases h), (fun f h => by cases h), (aAllc ⟨_, rfl, (rF_b (r := 1105) (by decide) rfl).mpr q0⟩ (fun f h => by cases h))⟩, [], List.mem_cons_self, fun f h => (by cases h)⟩
theorem rw_rvTS {K : Nat → Nat} {n : Nat} {JX : (Nat → jcell) → Prop} : aGho (rF K n) fa_T K n JX ag_rvTS := by
  refine aGho_of ⟨rfl, rfl⟩ ?_
  intro p σ ρ hH hX hA hM0
  have hG := aAG_of hA.1 (fun i e v he hv => (hA.2 i e v he hv).1)
  clear hA
  obtain ⟨v0, v1, v2, rfl, g0, g1, g2⟩ := rA_3 hG
  clear hG
  obtain ⟨x0, rfl, b0, d0⟩ := rG_ref (by decide) g0
  obtain ⟨x1, rfl, b1, d1⟩ := aG_int g1
  dsimp only at b1 d1
  obtain ⟨x2, rfl, b2, d2⟩ := aG_int g2
  dsimp only at b2 d2
  obtain ⟨m1, m2, m3, m4⟩ := hM0
  obtain ⟨M, hM⟩ := rMe_ex hH b0 d0
  obtain ⟨a0, c0, fs0, w0, e1, s0, t0, e4⟩ := m1 (0, 3, 2) (List.mem_of_getElem? (i := 0) rfl)
  obtain rfl : x0 = a0 := Sum.inl.inj (Option.some.inj (Sum.inr.inj (Sum.inr.inj (Option.some.inj (show some (rR x0) = some _ from e1)))))
  obtain rfl : rI x2 = w0 := Option.some.inj (show some (rI x2) = some w0 from e4)
  clear e1 e4
  have f0 : rB K n (rSh rS1 p [rR x0, rI x1]) 22 [rR x0] σ := by
    obtain ⟨w, e6, e7⟩ := m4 (353, [0, 0, 1]) (List.mem_of_getElem? (i := 0) rfl)
    obtain rfl : [rR x0, rR x0, rI x1] = w := Option.some.inj (show some [rR x0, rR x0, rI x1] = some w from e6)
    exact (rF_g (r := 353) (by decide)).mp e7
  obtain ⟨hq9, hR⟩ := ro_22.mp f0
  have hp : p.2 = none := rSh_n1 hq9
  clear hq9
  rw [rSh_mk hp] at hR
  obtain rfl : M = rM4 p.1 x1.toInt := rMg_u hM hR.1
  have uS : (rMk p.1 x1.toInt).2.1 = x2.toInt := rRX_f hR.2.1 s0 t0
  clear m1 m2 m3 m4
  have q0 : rB K n p 53 [rR x0, rI x1] σ := ro_53.mpr ⟨_, hM, by
    exact ⟨hp, rfl⟩⟩
  have q1 : rB K n p 81 [rI x1, rI x2] σ := ro_81.mpr (by
    have h : 1 - p.1.2.1 = x2.toInt := uS
    omega)
  exact ⟨p, fun _ => rfl, ⟨(fun q h => by cases h), fun q h => (by cases h), (fun f h => by cases h), (aAllc ⟨_, rfl, (rF_b (r := 850) (by decide) rfl).mpr q0⟩ (aAllc ⟨_, rfl, (rF_b (r := 1298) (by decide) rfl).mpr q1⟩ (fun f h => by cases h)))⟩, [], List.mem_cons_self, fun f h => (by cases h)⟩
theorem rw_rvS4l {K : Nat → Nat} {n : Nat} {JX : (Nat → jcell) → Prop} : aGho (rF K n) fa_T K n JX ag_rvS4l := by
  refine aGho_of ⟨rfl, rfl⟩ ?_
  intro p σ ρ hH hX hA hM0
  have hG := aAG_of hA.1 (fun i e v he hv => (hA.2 i e v he hv).1)
  clear hA
  obtain ⟨v0, v1, v2, v3, v4, v5, v6, rfl, g0, g1, g2, g3, g4, g5, g6⟩ := rA_7 hG
  clear hG
  obtain ⟨x0, rfl, b0, d0⟩ := rG_ref (by decide) g0
  obtain ⟨x1, rfl, b1, d1⟩ := aG_int g1
  dsimp only at b1 d1
  obtain ⟨x2, rfl, b2, d2⟩ := aG_int g2
  dsimp only at b2 d2
  obtain ⟨x3, rfl, b3, d3⟩ := aG_int g3
  dsimp only at b3 d3
  obtain ⟨x4, rfl, b4, d4⟩ := aG_int g4
  dsimp only at b4 d4
  obtain ⟨x5, rfl, b5, d5⟩ := aG_int g5
  dsimp only at b5 d5
  obtain ⟨x6, rfl, b6, d6⟩ := aG_int g6
  dsimp only at b6 d6
  obtain ⟨m1, m2, m3, m4⟩ := hM0
  obtain ⟨M, hM⟩ := rMe_ex hH b0 d0
  have f0 : rB K n p 53 [rR x0, rI x1] σ := by
    obtain ⟨w, e6, e7⟩ := m4 (850, [0, 1]) (List.mem_of_getElem? (i := 0) rfl)
    obtain rfl : [rR x0, rI x1] = w := Option.some.inj (show some [rR x0, rI x1] = some w from e6)
    exact (rF_b (r := 850) (by decide) rfl).mp e7
  obtain ⟨M9, h9, f0⟩ := ro_53.mp f0
  obtain rfl := rMg_u hM h9
  clear h9
  have f1 : rB K n p 160 [rI x1, rI x2, rI x3, rI x4] σ := by
    obtain ⟨w, e6, e7⟩ := m4 (2564, [1, 2, 3, 4]) (List.mem_of_getElem? (i := 1) rfl)
    obtain rfl : [rI x1, rI x2, rI x3, rI x4] = w := Option.some.inj (show some [rI x1, rI x2, rI x3, rI x4] = some w from e6)
    exact (rF_b (r := 2564) (by decide) rfl).mp e7
  have f1 := ro_160.mp f1
  have f2 : rB K n p 161 [rI x2, rI x3, rI x4] σ := by
    obtain ⟨w, e6, e7⟩ := m4 (2579, [2, 3, 4]) (List.mem_of_getElem? (i := 2) rfl)
    obtain rfl : [rI x2, rI x3, rI x4] = w := Option.some.inj (show some [rI x2, rI x3, rI x4] = some w from e6)
    exact (rF_b (r := 2579) (by decide) rfl).mp e7
  have f2 := ro_161.mp f2
  have f3 : rB K n p 65 [rI x1, rI x5] σ := by
    obtain ⟨w, e6, e7⟩ := m4 (1042, [1, 5]) (List.mem_of_getElem? (i := 3) rfl)
    obtain rfl : [rI x1, rI x5] = w := Option.some.inj (show some [rI x1, rI x5] = some w from e6)
    exact (rF_b (r := 1042) (by decide) rfl).mp e7
  have f3 := ro_65.mp f3
  have f4 : rB K n p 147 [rI x5, rI x6] σ := by
    obtain ⟨w, e6, e7⟩ := m4 (2354, [5, 6]) (List.mem_of_getElem? (i := 4) rfl)
    obtain rfl : [rI x5, rI x6] = w := Option.some.inj (show some [rI x5, rI x6] = some w from e6)
    exact (rF_b (r := 2354) (by decide) rfl).mp e7
  have f4 := ro_147.mp f4
  clear m1 m2 m3 m4
  have q0 : rB K n p 62 [rR x0, rI x2, rI x3] σ := ro_62.mpr ⟨_, hM, by
    have e : x2.toInt + 64 * x3.toInt = x1.toInt := by
      have h1 := f1.1
      have h2 := f1.2.1
      have h3 := f1.2.2
      unfold rFr at h1
      unfold rTo at h2
      unfold rBc at h3
      omega
    have hc : rIsC p.1 x1.toInt := by
      unfold rIsC
      rw [← f3, ← f1.1, ← f1.2.1]
      omega
    refine ⟨f0.1, ?_, ?_⟩
    · rw [e]; exact hc
    · rw [e, f0.2, rM4_c hc]⟩
  exact ⟨p, fun _ => rfl, ⟨(fun q h => by cases h), fun q h => (by cases h), (fun f h => by cases h), (aAllc ⟨_, rfl, (rF_b (r := 995) (by decide) rfl).mpr q0⟩ (fun f h => by cases h))⟩, [], List.mem_cons_self, fun f h => (by cases h)⟩
theorem rw_rvT0a {K : Nat → Nat} {n : Nat} {JX : (Nat → jcell) → Prop} : aGho (rF K n) fa_T K n JX ag_rvT0a := by
  refine aGho_of ⟨rfl, rfl⟩ ?_
  intro p σ ρ hH hX hA hM0
  have hG := aAG_of hA.1 (fun i e v he hv => (hA.2 i e v he hv).1)
  clear hA
  obtain ⟨v0, v1, v2, v3, v4, rfl, g0, g1, g2, g3, g4⟩ := rA_5 hG
  clear hG
  obtain ⟨x0, rfl, b0, d0⟩ := rG_ref (by decide) g0
  obtain ⟨x1, rfl, b1, d1⟩ := aG_int g1
  dsimp only at b1 d1
  obtain ⟨x2, rfl, b2, d2⟩ := aG_int g2
  dsimp only at b2 d2
  obtain ⟨x3, rfl, b3, d3⟩ := aG_int g3
  dsimp only at b3 d3
  obtain ⟨x4, rfl, b4, d4⟩ := aG_int g4
  dsimp only at b4 d4
  obtain ⟨m1, m2, m3, m4⟩ := hM0
  obtain ⟨M, hM⟩ := rMe_ex hH b0 d0
  have f0 : rB K n p 57 [rR x0, rI x2, rI x3] σ := by
    obtain ⟨w, e6, e7⟩ := m4 (915, [0, 2, 3]) (List.mem_of_getElem? (i := 0) rfl)
    obtain rfl : [rR x0, rI x2, rI x3] = w := Option.some.inj (show some [rR x0, rI x2, rI x3] = some w from e6)
    exact (rF_b (r := 915) (by decide) rfl).mp e7
  obtain ⟨M9, h9, f0⟩ := ro_57.mp f0
  obtain rfl := rMg_u hM h9
  clear h9
  have f1 : rB K n p 160 [rI x1, rI x2, rI x3, rI x4] σ := by
    obtain ⟨w, e6, e7⟩ := m4 (2564, [1, 2, 3, 4]) (List.mem_of_getElem? (i := 1) rfl)
    obtain rfl : [rI x1, rI x2, rI x3, rI x4] = w := Option.some.inj (show some [rI x1, rI x2, rI x3, rI x4] = some w from e6)
    exact (rF_b (r := 2564) (by decide) rfl).mp e7
  have f1 := ro_160.mp f1
  have f2 : rB K n p 161 [rI x2, rI x3, rI x4] σ := by
    obtain ⟨w, e6, e7⟩ := m4 (2579, [2, 3, 4]) (List.mem_of_getElem? (i := 2) rfl)
    obtain rfl : [rI x2, rI x3, rI x4] = w := Option.some.inj (show some [rI x2, rI x3, rI x4] = some w from e6)
    exact (rF_b (r := 2579) (by decide) rfl).mp e7
  have f2 := ro_161.mp f2
  clear m1 m2 m3 m4
  have q0 : rB K n p 58 [rR x0, rI x1] σ := ro_58.mpr ⟨_, hM, by
    have e : x2.toInt + 64 * x3.toInt = x1.toInt := by
      have h1 := f1.1
      have h2 := f1.2.1
      have h3 := f1.2.2
      unfold rFr at h1
      unfold rTo at h2
      unfold rBc at h3
      omega
    refine ⟨f0.1, ?_⟩
    unfold rT0
    rw [f0.2.2, e]
    funext i
    rw [if_pos (by rw [← e]; exact f0.2.1)]⟩
  exact ⟨p, fun _ => rfl, ⟨(fun q h => by cases h), fun q h => (by cases h), (fun f h => by cases h), (aAllc ⟨_, rfl, (rF_b (r := 930) (by decide) rfl).mpr q0⟩ (fun f h => by cases h))⟩, [], List.mem_cons_self, fun f h => (by cases h)⟩
theorem rw_rvT0b0 {K : Nat → Nat} {n : Nat} {JX : (Nat → jcell) → Prop} : aGho (rF K n) fa_T K n JX ag_rvT0b0 := by
  refine aGho_of ⟨rfl, rfl⟩ ?_
  intro p σ ρ hH hX hA hM0
  have hG := aAG_of hA.1 (fun i e v he hv => (hA.2 i e v he hv).1)
  clear hA
  obtain ⟨v0, v1, v2, v3, v4, v5, v6, rfl, g0, g1, g2, g3, g4, g5, g6⟩ := rA_7 hG
  clear hG
  obtain ⟨x0, rfl, b0, d0⟩ := rG_ref (by decide) g0
  obtain ⟨x1, rfl, b1, d1⟩ := aG_int g1
  dsimp only at b1 d1
  obtain ⟨x2, rfl, b2, d2⟩ := aG_int g2
  dsimp only at b2 d2
  obtain ⟨x3, rfl, b3, d3⟩ := aG_int g3
  dsimp only at b3 d3
  obtain ⟨x4, rfl, b4, d4⟩ := aG_int g4
  dsimp only at b4 d4
  obtain ⟨x5, rfl, b5, d5⟩ := aG_int g5
  dsimp only at b5 d5
  obtain ⟨x6, rfl, b6, d6⟩ := aG_int g6
  dsimp only at b6 d6
  obtain ⟨m1, m2, m3, m4⟩ := hM0
  obtain ⟨M, hM⟩ := rMe_ex hH b0 d0
  have f0 : rB K n p 53 [rR x0, rI x1] σ := by
    obtain ⟨w, e6, e7⟩ := m4 (850, [0, 1]) (List.mem_of_getElem? (i := 0) rfl)
    obtain rfl : [rR x0, rI x1] = w := Option.some.inj (show some [rR x0, rI x1] = some w from e6)
    exact (rF_b (r := 850) (by decide) rfl).mp e7
  obtain ⟨M9, h9, f0⟩ := ro_53.mp f0
  obtain rfl := rMg_u hM h9
  clear h9
  have f1 : rB K n p 160 [rI x1, rI x2, rI x3, rI x4] σ := by
    obtain ⟨w, e6, e7⟩ := m4 (2564, [1, 2, 3, 4]) (List.mem_of_getElem? (i := 1) rfl)
    obtain rfl : [rI x1, rI x2, rI x3, rI x4] = w := Option.some.inj (show some [rI x1, rI x2, rI x3, rI x4] = some w from e6)
    exact (rF_b (r := 2564) (by decide) rfl).mp e7
  have f1 := ro_160.mp f1
  have f2 : rB K n p 65 [rI x1, rI x5] σ := by
    obtain ⟨w, e6, e7⟩ := m4 (1042, [1, 5]) (List.mem_of_getElem? (i := 2) rfl)
    obtain rfl : [rI x1, rI x5] = w := Option.some.inj (show some [rI x1, rI x5] = some w from e6)
    exact (rF_b (r := 1042) (by decide) rfl).mp e7
  have f2 := ro_65.mp f2
  have f3 : rB K n p 147 [rI x5, rI x6] σ := by
    obtain ⟨w, e6, e7⟩ := m4 (2354, [5, 6]) (List.mem_of_getElem? (i := 3) rfl)
    obtain rfl : [rI x5, rI x6] = w := Option.some.inj (show some [rI x5, rI x6] = some w from e6)
    exact (rF_b (r := 2354) (by decide) rfl).mp e7
  have f3 := ro_147.mp f3
  clear m1 m2 m3 m4
  have q0 : rB K n p 58 [rR x0, rI x1] σ := ro_58.mpr ⟨_, hM, by
    have hc : ¬ rIsC p.1 x1.toInt := by
      unfold rIsC
      rw [← f2, ← f1.1, ← f1.2.1]
      omega
    refine ⟨f0.1, ?_⟩
    unfold rT0
    rw [f0.2]
    funext i
    rw [if_neg hc]⟩
  exact ⟨p, fun _ => rfl, ⟨(fun q h => by cases h), fun q h => (by cases h), (fun f h => by cases h), (aAllc ⟨_, rfl, (rF_b (r := 930) (by decide) rfl).mpr q0⟩ (fun f h => by cases h))⟩, [], List.mem_cons_self, fun f h => (by cases h)⟩
theorem rw_rvT0b1 {K : Nat → Nat} {n : Nat} {JX : (Nat → jcell) → Prop} : aGho (rF K n) fa_T K n JX ag_rvT0b1 := by
  refine aGho_of ⟨rfl, rfl⟩ ?_
  intro p σ ρ hH hX hA hM0
  have hG := aAG_of hA.1 (fun i e v he hv => (hA.2 i e v he hv).1)
  clear hA
  obtain ⟨v0, v1, v2, v3, v4, v5, v6, rfl, g0, g1, g2, g3, g4, g5, g6⟩ := rA_7 hG
  clear hG
  obtain ⟨x0, rfl, b0, d0⟩ := rG_ref (by decide) g0
  obtain ⟨x1, rfl, b1, d1⟩ := aG_int g1
  dsimp only at b1 d1
  obtain ⟨x2, rfl, b2, d2⟩ := aG_int g2
  dsimp only at b2 d2
  obtain ⟨x3, rfl, b3, d3⟩ := aG_int g3
  dsimp only at b3 d3
  obtain ⟨x4, rfl, b4, d4⟩ := aG_int g4
  dsimp only at b4 d4
  obtain ⟨x5, rfl, b5, d5⟩ := aG_int g5
  dsimp only at b5 d5
  obtain ⟨x6, rfl, b6, d6⟩ := aG_int g6
  dsimp only at b6 d6
  obtain ⟨m1, m2, m3, m4⟩ := hM0
  obtain ⟨M, hM⟩ := rMe_ex hH b0 d0
  have f0 : rB K n p 53 [rR x0, rI x1] σ := by
    obtain ⟨w, e6, e7⟩ := m4 (850, [0, 1]) (List.mem_of_getElem? (i := 0) rfl)
    obtain rfl : [rR x0, rI x1] = w := Option.some.inj (show some [rR x0, rI x1] = some w from e6)
    exact (rF_b (r := 850) (by decide) rfl).mp e7
  obtain ⟨M9, h9, f0⟩ := ro_53.mp f0
  obtain rfl := rMg_u hM h9
  clear h9
  have f1 : rB K n p 160 [rI x1, rI x2, rI x3, rI x4] σ := by
    obtain ⟨w, e6, e7⟩ := m4 (2564, [1, 2, 3, 4]) (List.mem_of_getElem? (i := 1) rfl)
    obtain rfl : [rI x1, rI x2, rI x3, rI x4] = w := Option.some.inj (show some [rI x1, rI x2, rI x3, rI x4] = some w from e6)
    exact (rF_b (r := 2564) (by decide) rfl).mp e7
  have f1 := ro_160.mp f1
  have f2 : rB K n p 65 [rI x1, rI x5] σ := by
    obtain ⟨w, e6, e7⟩ := m4 (1042, [1, 5]) (List.mem_of_getElem? (i := 2) rfl)
    obtain rfl : [rI x1, rI x5] = w := Option.some.inj (show some [rI x1, rI x5] = some w from e6)
    exact (rF_b (r := 1042) (by decide) rfl).mp e7
  have f2 := ro_65.mp f2
  have f3 : rB K n p 147 [rI x5, rI x6] σ := by
    obtain ⟨w, e6, e7⟩ := m4 (2354, [5, 6]) (List.mem_of_getElem? (i := 3) rfl)
    obtain rfl : [rI x5, rI x6] = w := Option.some.inj (show some [rI x5, rI x6] = some w from e6)
    exact (rF_b (r := 2354) (by decide) rfl).mp e7
  have f3 := ro_147.mp f3
  clear m1 m2 m3 m4
  have q0 : rB K n p 58 [rR x0, rI x1] σ := ro_58.mpr ⟨_, hM, by
    have hc : ¬ rIsC p.1 x1.toInt := by
      unfold rIsC
      rw [← f2, ← f1.1, ← f1.2.1]
      omega
    refine ⟨f0.1, ?_⟩
    unfold rT0
    rw [f0.2]
    funext i
    rw [if_neg hc]⟩
  exact ⟨p, fun _ => rfl, ⟨(fun q h => by cases h), fun q h => (by cases h), (fun f h => by cases h), (aAllc ⟨_, rfl, (rF_b (r := 930) (by decide) rfl).mpr q0⟩ (fun f h => by cases h))⟩, [], List.mem_cons_self, fun f h => (by cases h)⟩
theorem rw_rvT0ka {K : Nat → Nat} {n : Nat} {JX : (Nat → jcell) → Prop} : aGho (rF K n) fa_T K n JX ag_rvT0ka := by
  refine aGho_of ⟨rfl, rfl⟩ ?_
  intro p σ ρ hH hX hA hM0
  have hG := aAG_of hA.1 (fun i e v he hv => (hA.2 i e v he hv).1)
  clear hA
  obtain ⟨v0, v1, v2, v3, v4, rfl, g0, g1, g2, g3, g4⟩ := rA_5 hG
  clear hG
  obtain ⟨x0, rfl, b0, d0⟩ := rG_ref (by decide) g0
  obtain ⟨x1, rfl, b1, d1⟩ := aG_int g1
  dsimp only at b1 d1
  obtain ⟨x2, rfl, b2, d2⟩ := aG_int g2
  dsimp only at b2 d2
  obtain ⟨x3, rfl, b3, d3⟩ := aG_int g3
  dsimp only at b3 d3
  obtain ⟨x4, rfl, b4, d4⟩ := aG_int g4
  dsimp only at b4 d4
  obtain ⟨m1, m2, m3, m4⟩ := hM0
  obtain ⟨M, hM⟩ := rMe_ex hH b0 d0
  have l0 : 0 ≤ (1 * x3.toInt + (-1 * x2.toInt + 0)) + -3 := by
    obtain ⟨z, e6, e7⟩ := m3 ([(3, 1), (2, -1)], -3) (List.mem_of_getElem? (i := 0) rfl)
    obtain rfl : (1 * x3.toInt + (-1 * x2.toInt + 0)) = z := Option.some.inj (show some (1 * x3.toInt + (-1 * x2.toInt + 0)) = some z from e6)
    exact e7
  have f0 : rB K n p 53 [rR x0, rI x1] σ := by
    obtain ⟨w, e6, e7⟩ := m4 (850, [0, 1]) (List.mem_of_getElem? (i := 0) rfl)
    obtain rfl : [rR x0, rI x1] = w := Option.some.inj (show some [rR x0, rI x1] = some w from e6)
    exact (rF_b (r := 850) (by decide) rfl).mp e7
  obtain ⟨M9, h9, f0⟩ := ro_53.mp f0
  obtain rfl := rMg_u hM h9
  clear h9
  have f1 : rB K n p 160 [rI x1, rI x2, rI x3, rI x4] σ := by
    obtain ⟨w, e6, e7⟩ := m4 (2564, [1, 2, 3, 4]) (List.mem_of_getElem? (i := 1) rfl)
    obtain rfl : [rI x1, rI x2, rI x3, rI x4] = w := Option.some.inj (show some [rI x1, rI x2, rI x3, rI x4] = some w from e6)
    exact (rF_b (r := 2564) (by decide) rfl).mp e7
  have f1 := ro_160.mp f1
  clear m1 m2 m3 m4
  have q0 : rB K n p 58 [rR x0, rI x1] σ := ro_58.mpr ⟨_, hM, by
    have hc : ¬ rIsC p.1 x1.toInt := by
      unfold rIsC
      rw [← f1.1, ← f1.2.1]
      omega
    refine ⟨f0.1, ?_⟩
    unfold rT0
    rw [f0.2]
    funext i
    rw [if_neg hc]⟩
  exact ⟨p, fun _ => rfl, ⟨(fun q h => by cases h), fun q h => (by cases h), (fun f h => by cases h), (aAllc ⟨_, rfl, (rF_b (r := 930) (by decide) rfl).mpr q0⟩ (fun f h => by cases h))⟩, [], List.mem_cons_self, fun f h => (by cases h)⟩
theorem rw_rvT0kb {K : Nat → Nat} {n : Nat} {JX : (Nat → jcell) → Prop} : aGho (rF K n) fa_T K n JX ag_rvT0kb := by
  refine aGho_of ⟨rfl, rfl⟩ ?_
  intro p σ ρ hH hX hA hM0
  have hG := aAG_of hA.1 (fun i e v he hv => (hA.2 i e v he hv).1)
  clear hA
  obtain ⟨v0, v1, v2, v3, v4, rfl, g0, g1, g2, g3, g4⟩ := rA_5 hG
  clear hG
  obtain ⟨x0, rfl, b0, d0⟩ := rG_ref (by decide) g0
  obtain ⟨x1, rfl, b1, d1⟩ := aG_int g1
  dsimp only at b1 d1
  obtain ⟨x2, rfl, b2, d2⟩ := aG_int g2
  dsimp only at b2 d2
  obtain ⟨x3, rfl, b3, d3⟩ := aG_int g3
  dsimp only at b3 d3
  obtain ⟨x4, rfl, b4, d4⟩ := aG_int g4
  dsimp only at b4 d4
  obtain ⟨m1, m2, m3, m4⟩ := hM0
  obtain ⟨M, hM⟩ := rMe_ex hH b0 d0
  have l0 : 0 ≤ (-1 * x3.toInt + (1 * x2.toInt + 0)) + 1 := by
    obtain ⟨z, e6, e7⟩ := m3 ([(3, -1), (2, 1)], 1) (List.mem_of_getElem? (i := 0) rfl)
    obtain rfl : (-1 * x3.toInt + (1 * x2.toInt + 0)) = z := Option.some.inj (show some (-1 * x3.toInt + (1 * x2.toInt + 0)) = some z from e6)
    exact e7
  have l1 : 0 ≤ (1 * x3.toInt + (-1 * x2.toInt + 0)) + 1 := by
    obtain ⟨z, e6, e7⟩ := m3 ([(3, 1), (2, -1)], 1) (List.mem_of_getElem? (i := 1) rfl)
    obtain rfl : (1 * x3.toInt + (-1 * x2.toInt + 0)) = z := Option.some.inj (show some (1 * x3.toInt + (-1 * x2.toInt + 0)) = some z from e6)
    exact e7
  have f0 : rB K n p 53 [rR x0, rI x1] σ := by
    obtain ⟨w, e6, e7⟩ := m4 (850, [0, 1]) (List.mem_of_getElem? (i := 0) rfl)
    obtain rfl : [rR x0, rI x1] = w := Option.some.inj (show some [rR x0, rI x1] = some w from e6)
    exact (rF_b (r := 850) (by decide) rfl).mp e7
  obtain ⟨M9, h9, f0⟩ := ro_53.mp f0
  obtain rfl := rMg_u hM h9
  clear h9
  have f1 : rB K n p 160 [rI x1, rI x2, rI x3, rI x4] σ := by
    obtain ⟨w, e6, e7⟩ := m4 (2564, [1, 2, 3, 4]) (List.mem_of_getElem? (i := 1) rfl)
    obtain rfl : [rI x1, rI x2, rI x3, rI x4] = w := Option.some.inj (show some [rI x1, rI x2, rI x3, rI x4] = some w from e6)
    exact (rF_b (r := 2564) (by decide) rfl).mp e7
  have f1 := ro_160.mp f1
  clear m1 m2 m3 m4
  have q0 : rB K n p 58 [rR x0, rI x1] σ := ro_58.mpr ⟨_, hM, by
    have hc : ¬ rIsC p.1 x1.toInt := by
      unfold rIsC
      rw [← f1.1, ← f1.2.1]
      omega
    refine ⟨f0.1, ?_⟩
    unfold rT0
    rw [f0.2]
    funext i
    rw [if_neg hc]⟩
  exact ⟨p, fun _ => rfl, ⟨(fun q h => by cases h), fun q h => (by cases h), (fun f h => by cases h), (aAllc ⟨_, rfl, (rF_b (r := 930) (by decide) rfl).mpr q0⟩ (fun f h => by cases h))⟩, [], List.mem_cons_self, fun f h => (by cases h)⟩
theorem rw_rvT0kc {K : Nat → Nat} {n : Nat} {JX : (Nat → jcell) → Prop} : aGho (rF K n) fa_T K n JX ag_rvT0kc := by
  refine aGho_of ⟨rfl, rfl⟩ ?_
  intro p σ ρ hH hX hA hM0
  have hG := aAG_of hA.1 (fun i e v he hv => (hA.2 i e v he hv).1)
  clear hA
  obtain ⟨v0, v1, v2, v3, v4, rfl, g0, g1, g2, g3, g4⟩ := rA_5 hG
  clear hG
  obtain ⟨x0, rfl, b0, d0⟩ := rG_ref (by decide) g0
  obtain ⟨x1, rfl, b1, d1⟩ := aG_int g1
  dsimp only at b1 d1
  obtain ⟨x2, rfl, b2, d2⟩ := aG_int g2
  dsimp only at b2 d2
  obtain ⟨x3, rfl, b3, d3⟩ := aG_int g3
  dsimp only at b3 d3
  obtain ⟨x4, rfl, b4, d4⟩ := aG_int g4
  dsimp only at b4 d4
  obtain ⟨m1, m2, m3, m4⟩ := hM0
  obtain ⟨M, hM⟩ := rMe_ex hH b0 d0
  have l0 : 0 ≤ (-1 * x3.toInt + (1 * x2.toInt + 0)) + -3 := by
    obtain ⟨z, e6, e7⟩ := m3 ([(3, -1), (2, 1)], -3) (List.mem_of_getElem? (i := 0) rfl)
    obtain rfl : (-1 * x3.toInt + (1 * x2.toInt + 0)) = z := Option.some.inj (show some (-1 * x3.toInt + (1 * x2.toInt + 0)) = some z from e6)
    exact e7
  have f0 : rB K n p 53 [rR x0, rI x1] σ := by
    obtain ⟨w, e6, e7⟩ := m4 (850, [0, 1]) (List.mem_of_getElem? (i := 0) rfl)
    obtain rfl : [rR x0, rI x1] = w := Option.some.inj (show some [rR x0, rI x1] = some w from e6)
    exact (rF_b (r := 850) (by decide) rfl).mp e7
  obtain ⟨M9, h9, f0⟩ := ro_53.mp f0
  obtain rfl := rMg_u hM h9
  clear h9
  have f1 : rB K n p 160 [rI x1, rI x2, rI x3, rI x4] σ := by
    obtain ⟨w, e6, e7⟩ := m4 (2564, [1, 2, 3, 4]) (List.mem_of_getElem? (i := 1) rfl)
    obtain rfl : [rI x1, rI x2, rI x3, rI x4] = w := Option.some.inj (show some [rI x1, rI x2, rI x3, rI x4] = some w from e6)
    exact (rF_b (r := 2564) (by decide) rfl).mp e7
  have f1 := ro_160.mp f1
  clear m1 m2 m3 m4
  have q0 : rB K n p 58 [rR x0, rI x1] σ := ro_58.mpr ⟨_, hM, by
    have hc : ¬ rIsC p.1 x1.toInt := by
      unfold rIsC
      rw [← f1.1, ← f1.2.1]
      omega
    refine ⟨f0.1, ?_⟩
    unfold rT0
    rw [f0.2]
    funext i
    rw [if_neg hc]⟩
  exact ⟨p, fun _ => rfl, ⟨(fun q h => by cases h), fun q h => (by cases h), (fun f h => by cases h), (aAllc ⟨_, rfl, (rF_b (r := 930) (by decide) rfl).mpr q0⟩ (fun f h => by cases h))⟩, [], List.mem_cons_self, fun f h => (by cases h)⟩
theorem rw_rvT1 {K : Nat → Nat} {n : Nat} {JX : (Nat → jcell) → Prop} : aGho (rF K n) fa_T K n JX ag_rvT1 := by
  refine aGho_of ⟨rfl, rfl⟩ ?_
  intro p σ ρ hH hX hA hM0
  have hG := aAG_of hA.1 (fun i e v he hv => (hA.2 i e v he hv).1)
  clear hA
  obtain ⟨v0, v1, v2, v3, v4, v5, v6, rfl, g0, g1, g2, g3, g4, g5, g6⟩ := rA_7 hG
  clear hG
  obtain ⟨x0, rfl, b0, d0⟩ := rG_ref (by decide) g0
  obtain ⟨x1, rfl, b1, d1⟩ := rG_ref (by decide) g1
  obtain ⟨x2, rfl, b2, d2⟩ := aG_int g2
  dsimp only at b2 d2
  obtain ⟨x3, rfl, b3, d3⟩ := aG_int g3
  dsimp only at b3 d3
  obtain ⟨x4, rfl, b4, d4⟩ := aG_int g4
  dsimp only at b4 d4
  obtain ⟨x5, rfl, b5, d5⟩ := aG_int g5
  dsimp only at b5 d5
  obtain ⟨x6, rfl, b6, d6⟩ := aG_int g6
  dsimp only at b6 d6
  obtain ⟨m1, m2, m3, m4⟩ := hM0
  obtain ⟨M, hM⟩ := rMe_ex hH b0 d0
  obtain ⟨a0, c0, fs0, w0, e1, s0, t0, e4⟩ := m1 (0, 2, 1) (List.mem_of_getElem? (i := 0) rfl)
  obtain rfl : x0 = a0 := Sum.inl.inj (Option.some.inj (Sum.inr.inj (Sum.inr.inj (Option.some.inj (show some (rR x0) = some _ from e1)))))
  obtain rfl : rR x1 = w0 := Option.some.inj (show some (rR x1) = some w0 from e4)
  clear e1 e4
  have f0 : rB K n p 58 [rR x0, rI x2] σ := by
    obtain ⟨w, e6, e7⟩ := m4 (930, [0, 2]) (List.mem_of_getElem? (i := 0) rfl)
    obtain rfl : [rR x0, rI x2] = w := Option.some.inj (show some [rR x0, rI x2] = some w from e6)
    exact (rF_b (r := 930) (by decide) rfl).mp e7
  obtain ⟨M9, h9, f0⟩ := ro_58.mp f0
  obtain rfl := rMg_u hM h9
  clear h9
  have f1 : rB K n p 160 [rI x2, rI x3, rI x4, rI x5] σ := by
    obtain ⟨w, e6, e7⟩ := m4 (2564, [2, 3, 4, 5]) (List.mem_of_getElem? (i := 1) rfl)
    obtain rfl : [rI x2, rI x3, rI x4, rI x5] = w := Option.some.inj (show some [rI x2, rI x3, rI x4, rI x5] = some w from e6)
    exact (rF_b (r := 2564) (by decide) rfl).mp e7
  have f1 := ro_160.mp f1
  clear m1 m2 m3 m4
  have q0 : rB K n p 59 [rR x0, rI x2] (jup σ x1 (jsto (σ x1) x4.toNatClampNeg x6)) := ro_59.mpr ⟨_, rMg_up hM s0 t0 b4 d4, by
    refine ⟨f0.1, ?_⟩
    unfold rT1
    rw [f0.2, ← f1.2.1, show x6.toInt = 0 by omega]⟩
  exact ⟨p, fun _ => rfl, ⟨(fun q h => by cases h), fun q h => (by cases h), (fun f h => by cases h), (aAllc ⟨_, rfl, rF_p (r := 946) (by decide) (by decide) q0⟩ (fun f h => by cases h))⟩, [], List.mem_cons_self, fun f h => (by cases h)⟩
theorem rw_rvT2 {K : Nat → Nat} {n : Nat} {JX : (Nat → jcell) → Prop} : aGho (rF K n) fa_T K n JX ag_rvT2 := by
  refine aGho_of ⟨rfl, rfl⟩ ?_
  intro p σ ρ hH hX hA hM0
  have hG := aAG_of hA.1 (fun i e v he hv => (hA.2 i e v he hv).1)
  clear hA
  obtain ⟨v0, v1, v2, v3, v4, rfl, g0, g1, g2, g3, g4⟩ := rA_5 hG
  clear hG
  obtain ⟨x0, rfl, b0, d0⟩ := rG_ref (by decide) g0
  obtain ⟨x1, rfl, b1, d1⟩ := rG_ref (by decide) g1
  obtain ⟨x2, rfl, b2, d2⟩ := aG_int g2
  dsimp only at b2 d2
  obtain ⟨x3, rfl, b3, d3⟩ := aG_int g3
  dsimp only at b3 d3
  obtain ⟨x4, rfl, b4, d4⟩ := aG_int g4
  dsimp only at b4 d4
  obtain ⟨m1, m2, m3, m4⟩ := hM0
  obtain ⟨M, hM⟩ := rMe_ex hH b0 d0
  obtain ⟨a0, c0, fs0, w0, e1, s0, t0, e4⟩ := m1 (0, 2, 1) (List.mem_of_getElem? (i := 0) rfl)
  obtain rfl : x0 = a0 := Sum.inl.inj (Option.some.inj (Sum.inr.inj (Sum.inr.inj (Option.some.inj (show some (rR x0) = some _ from e1)))))
  obtain rfl : rR x1 = w0 := Option.some.inj (show some (rR x1) = some w0 from e4)
  clear e1 e4
  have f0 : rB K n p 59 [rR x0, rI x2] σ := by
    obtain ⟨w, e6, e7⟩ := m4 (946, [0, 2]) (List.mem_of_getElem? (i := 0) rfl)
    obtain rfl : [rR x0, rI x2] = w := Option.some.inj (show some [rR x0, rI x2] = some w from e6)
    exact (rF_b (r := 946) (by decide) rfl).mp e7
  obtain ⟨M9, h9, f0⟩ := ro_59.mp f0
  obtain rfl := rMg_u hM h9
  clear h9
  have f1 : rB K n p 64 [rI x2, rI x3] σ := by
    obtain ⟨w, e6, e7⟩ := m4 (1026, [2, 3]) (List.mem_of_getElem? (i := 1) rfl)
    obtain rfl : [rI x2, rI x3] = w := Option.some.inj (show some [rI x2, rI x3] = some w from e6)
    exact (rF_b (r := 1026) (by decide) rfl).mp e7
  have f1 := ro_64.mp f1
  have f2 : rB K n p 66 [rI x2, rI x4] σ := by
    obtain ⟨w, e6, e7⟩ := m4 (1058, [2, 4]) (List.mem_of_getElem? (i := 2) rfl)
    obtain rfl : [rI x2, rI x4] = w := Option.some.inj (show some [rI x2, rI x4] = some w from e6)
    exact (rF_b (r := 1058) (by decide) rfl).mp e7
  have f2 := ro_66.mp f2
  clear m1 m2 m3 m4
  have q0 : rB K n p 60 [rR x0, rI x2] (jup σ x1 (jsto (σ x1) x3.toNatClampNeg x4)) := ro_60.mpr ⟨_, rMg_up hM s0 t0 b3 d3, by
    refine ⟨f0.1, ?_⟩
    unfold rT2
    rw [f0.2, ← f2, ← f1]⟩
  exact ⟨p, fun _ => rfl, ⟨(fun q h => by cases h), fun q h => (by cases h), (fun f h => by cases h), (aAllc ⟨_, rfl, rF_p (r := 962) (by decide) (by decide) q0⟩ (fun f h => by cases h))⟩, [], List.mem_cons_self, fun f h => (by cases h)⟩
theorem rw_rvT3 {K : Nat → Nat} {n : Nat} {JX : (Nat → jcell) → Prop} : aGho (rF K n) fa_T K n JX ag_rvT3 := by
  refine aGho_of ⟨rfl, rfl⟩ ?_
  intro p σ ρ hH hX hA hM0
  have hG := aAG_of hA.1 (fun i e v he hv => (hA.2 i e v he hv).1)
  clear hA
  obtain ⟨v0, v1, v2, v3, v4, v5, v6, rfl, g0, g1, g2, g3, g4, g5, g6⟩ := rA_7 hG
  clear hG
  obtain ⟨x0, rfl, b0, d0⟩ := rG_ref (by decide) g0
  obtain ⟨x1, rfl, b1, d1⟩ := rG_ref (by decide) g1
  obtain ⟨x2, rfl, b2, d2⟩ := aG_int g2
  dsimp only at b2 d2
  obtain ⟨x3, rfl, b3, d3⟩ := aG_int g3
  dsimp only at b3 d3
  obtain ⟨x4, rfl, b4, d4⟩ := aG_int g4
  dsimp only at b4 d4
  obtain ⟨x5, rfl, b5, d5⟩ := aG_int g5
  dsimp only at b5 d5
  obtain ⟨x6, rfl, b6, d6⟩ := aG_int g6
  dsimp only at b6 d6
  obtain ⟨m1, m2, m3, m4⟩ := hM0
  obtain ⟨M, hM⟩ := rMe_ex hH b0 d0
  obtain ⟨a0, c0, fs0, w0, e1, s0, t0, e4⟩ := m1 (0, 2, 1) (List.mem_of_getElem? (i := 0) rfl)
  obtain rfl : x0 = a0 := Sum.inl.inj (Option.some.inj (Sum.inr.inj (Sum.inr.inj (Option.some.inj (show some (rR x0) = some _ from e1)))))
  obtain rfl : rR x1 = w0 := Option.some.inj (show some (rR x1) = some w0 from e4)
  clear e1 e4
  have f0 : rB K n p 60 [rR x0, rI x2] σ := by
    obtain ⟨w, e6, e7⟩ := m4 (962, [0, 2]) (List.mem_of_getElem? (i := 0) rfl)
    obtain rfl : [rR x0, rI x2] = w := Option.some.inj (show some [rR x0, rI x2] = some w from e6)
    exact (rF_b (r := 962) (by decide) rfl).mp e7
  obtain ⟨M9, h9, f0⟩ := ro_60.mp f0
  obtain rfl := rMg_u hM h9
  clear h9
  have f1 : rB K n p 160 [rI x2, rI x3, rI x4, rI x5] σ := by
    obtain ⟨w, e6, e7⟩ := m4 (2564, [2, 3, 4, 5]) (List.mem_of_getElem? (i := 1) rfl)
    obtain rfl : [rI x2, rI x3, rI x4, rI x5] = w := Option.some.inj (show some [rI x2, rI x3, rI x4, rI x5] = some w from e6)
    exact (rF_b (r := 2564) (by decide) rfl).mp e7
  have f1 := ro_160.mp f1
  have f2 : rB K n p 65 [rI x2, rI x6] σ := by
    obtain ⟨w, e6, e7⟩ := m4 (1042, [2, 6]) (List.mem_of_getElem? (i := 2) rfl)
    obtain rfl : [rI x2, rI x6] = w := Option.some.inj (show some [rI x2, rI x6] = some w from e6)
    exact (rF_b (r := 1042) (by decide) rfl).mp e7
  have f2 := ro_65.mp f2
  clear m1 m2 m3 m4
  have q0 : rB K n p 61 [rR x0, rI x2] (jup σ x1 (jsto (σ x1) x3.toNatClampNeg x6)) := ro_61.mpr ⟨_, rMg_up hM s0 t0 b3 d3, by
    refine ⟨f0.1, ?_⟩
    unfold rT3
    rw [f0.2, ← f2, ← f1.1]⟩
  exact ⟨p, fun _ => rfl, ⟨(fun q h => by cases h), fun q h => (by cases h), (fun f h => by cases h), (aAllc ⟨_, rfl, rF_p (r := 978) (by decide) (by decide) q0⟩ (fun f h => by cases h))⟩, [], List.mem_cons_self, fun f h => (by cases h)⟩
theorem rw_rvTX {K : Nat → Nat} {n : Nat} {JX : (Nat → jcell) → Prop} : aGho (rF K n) fa_T K n JX ag_rvTX := by
  refine aGho_of ⟨rfl, rfl⟩ ?_
  intro p σ ρ hH hX hA hM0
  have hG := aAG_of hA.1 (fun i e v he hv => (hA.2 i e v he hv).1)
  clear hA
  obtain ⟨v0, v1, v2, v3, v4, v5, rfl, g0, g1, g2, g3, g4, g5⟩ := rA_6 hG
  clear hG
  obtain ⟨x0, rfl, b0, d0⟩ := rG_ref (by decide) g0
  obtain ⟨x1, rfl, b1, d1⟩ := aG_int g1
  dsimp only at b1 d1
  obtain ⟨x2, rfl, b2, d2⟩ := aG_int g2
  dsimp only at b2 d2
  obtain ⟨x3, rfl, b3, d3⟩ := aG_int g3
  dsimp only at b3 d3
  obtain ⟨x4, rfl, b4, d4⟩ := aG_int g4
  dsimp only at b4 d4
  obtain ⟨x5, rfl, b5, d5⟩ := aG_int g5
  dsimp only at b5 d5
  obtain ⟨m1, m2, m3, m4⟩ := hM0
  obtain ⟨M, hM⟩ := rMe_ex hH b0 d0
  obtain ⟨a0, c0, fs0, w0, e1, s0, t0, e4⟩ := m1 (0, 3, 3) (List.mem_of_getElem? (i := 0) rfl)
  obtain rfl : x0 = a0 := Sum.inl.inj (Option.some.inj (Sum.inr.inj (Sum.inr.inj (Option.some.inj (show some (rR x0) = some _ from e1)))))
  obtain rfl : rI x3 = w0 := Option.some.inj (show some (rI x3) = some w0 from e4)
  clear e1 e4
  obtain ⟨a1, c1, fs1, w1, e1, s1, t1, e4⟩ := m1 (0, 4, 4) (List.mem_of_getElem? (i := 1) rfl)
  obtain rfl : x0 = a1 := Sum.inl.inj (Option.some.inj (Sum.inr.inj (Sum.inr.inj (Option.some.inj (show some (rR x0) = some _ from e1)))))
  obtain rfl : rI x4 = w1 := Option.some.inj (show some (rI x4) = some w1 from e4)
  clear e1 e4
  obtain ⟨a2, c2, fs2, w2, e1, s2, t2, e4⟩ := m1 (0, 5, 5) (List.mem_of_getElem? (i := 2) rfl)
  obtain rfl : x0 = a2 := Sum.inl.inj (Option.some.inj (Sum.inr.inj (Sum.inr.inj (Option.some.inj (show some (rR x0) = some _ from e1)))))
  obtain rfl : rI x5 = w2 := Option.some.inj (show some (rI x5) = some w2 from e4)
  clear e1 e4
  have l0 : 0 ≤ (1 * x2.toInt + (1 * x3.toInt + 0)) + -1 := by
    obtain ⟨z, e6, e7⟩ := m3 ([(2, 1), (3, 1)], -1) (List.mem_of_getElem? (i := 0) rfl)
    obtain rfl : (1 * x2.toInt + (1 * x3.toInt + 0)) = z := Option.some.inj (show some (1 * x2.toInt + (1 * x3.toInt + 0)) = some z from e6)
    exact e7
  have l1 : 0 ≤ (-1 * x2.toInt + (-1 * x3.toInt + 0)) + 1 := by
    obtain ⟨z, e6, e7⟩ := m3 ([(2, -1), (3, -1)], 1) (List.mem_of_getElem? (i := 1) rfl)
    obtain rfl : (-1 * x2.toInt + (-1 * x3.toInt + 0)) = z := Option.some.inj (show some (-1 * x2.toInt + (-1 * x3.toInt + 0)) = some z from e6)
    exact e7
  have f0 : rB K n p 61 [rR x0, rI x1] σ := by
    obtain ⟨w, e6, e7⟩ := m4 (978, [0, 1]) (List.mem_of_getElem? (i := 0) rfl)
    obtain rfl : [rR x0, rI x1] = w := Option.some.inj (show some [rR x0, rI x1] = some w from e6)
    exact (rF_b (r := 978) (by decide) rfl).mp e7
  obtain ⟨M9, h9, f0⟩ := ro_61.mp f0
  obtain rfl := rMg_u hM h9
  clear h9
  have f1 : rB K n p 24 [] σ := by
    obtain ⟨w, e6, e7⟩ := m4 (384, []) (List.mem_of_getElem? (i := 1) rfl)
    obtain rfl : [] = w := Option.some.inj (show some [] = some w from e6)
    exact (rF_b (r := 384) (by decide) rfl).mp e7
  have f1 := ro_24.mp f1
  have f2 : rB K n p 25 [rI x1] σ := by
    obtain ⟨w, e6, e7⟩ := m4 (401, [1]) (List.mem_of_getElem? (i := 2) rfl)
    obtain rfl : [rI x1] = w := Option.some.inj (show some [rI x1] = some w from e6)
    exact (rF_b (r := 401) (by decide) rfl).mp e7
  have f2 := ro_25.mp f2
  have f3 : rB K n p 81 [rI x1, rI x2] σ := by
    obtain ⟨w, e6, e7⟩ := m4 (1298, [1, 2]) (List.mem_of_getElem? (i := 3) rfl)
    obtain rfl : [rI x1, rI x2] = w := Option.some.inj (show some [rI x1, rI x2] = some w from e6)
    exact (rF_b (r := 1298) (by decide) rfl).mp e7
  have f3 := ro_81.mp f3
  have f4 : rB K n p 68 [rI x4] σ := by
    obtain ⟨w, e6, e7⟩ := m4 (1089, [4]) (List.mem_of_getElem? (i := 4) rfl)
    obtain rfl : [rI x4] = w := Option.some.inj (show some [rI x4] = some w from e6)
    exact (rF_b (r := 1089) (by decide) rfl).mp e7
  have f4 := ro_68.mp f4
  have f5 : rB K n p 69 [rI x5] σ := by
    obtain ⟨w, e6, e7⟩ := m4 (1105, [5]) (List.mem_of_getElem? (i := 5) rfl)
    obtain rfl : [rI x5] = w := Option.some.inj (show some [rI x5] = some w from e6)
    exact (rF_b (r := 1105) (by decide) rfl).mp e7
  have f5 := ro_69.mp f5
  clear m1 m2 m3 m4
  have q0 : rB K n p 22 [rR x0] σ := ro_22.mpr (by
    refine ⟨f0.1, ?_, ⟨x3, ⟨b0, d0, _, _, s0, t0⟩, by omega⟩, ⟨x4, ⟨b0, d0, _, _, s1, t1⟩, f4⟩, ⟨x5, ⟨b0, d0, _, _, s2, t2⟩, f5⟩⟩
    have h := hM
    rw [f0.2, rTb f1 f2] at h
    exact h)
  exact ⟨p, fun _ => rfl, ⟨(fun q h => by cases h), fun q h => (by cases h), (fun f h => by cases h), (aAllc ⟨_, rfl, (rF_b (r := 353) (by decide) rfl).mpr q0⟩ (fun f h => by cases h))⟩, [], List.mem_cons_self, fun f h => (by cases h)⟩
theorem rw_rvDM2 {K : Nat → Nat} {n : Nat} {JX : (Nat → jcell) → Prop} : aGho (rF K n) fa_T K n JX ag_rvDM2 := by
  refine aGho_of ⟨rfl, rfl⟩ ?_
  intro p σ ρ hH hX hA hM0
  have hG := aAG_of hA.1 (fun i e v he hv => (hA.2 i e v he hv).1)
  clear hA
  obtain ⟨v0, v1, v2, v3, v4, rfl, g0, g1, g2, g3, g4⟩ := rA_5 hG
  clear hG
  obtain ⟨x0, rfl, b0, d0⟩ := aG_int g0
  dsimp only at b0 d0
  obtain ⟨x1, rfl, b1, d1⟩ := aG_int g1
  dsimp only at b1 d1
  obtain ⟨x2, rfl, b2, d2⟩ := aG_int g2
  dsimp only at b2 d2
  obtain ⟨x3, rfl, b3, d3⟩ := aG_int g3
  dsimp only at b3 d3
  obtain ⟨x4, rfl, b4, d4⟩ := aG_int g4
  dsimp only at b4 d4
  obtain ⟨m1, m2, m3, m4⟩ := hM0
  have l0 : 0 ≤ (1 * x1.toInt + (-1 * x0.toInt + (64 * x3.toInt + 0))) + 0 := by
    obtain ⟨z, e6, e7⟩ := m3 ([(1, 1), (0, -1), (3, 64)], 0) (List.mem_of_getElem? (i := 0) rfl)
    obtain rfl : (1 * x1.toInt + (-1 * x0.toInt + (64 * x3.toInt + 0))) = z := Option.some.inj (show some (1 * x1.toInt + (-1 * x0.toInt + (64 * x3.toInt + 0))) = some z from e6)
    exact e7
  have l1 : 0 ≤ (-1 * x1.toInt + (1 * x0.toInt + (-64 * x3.toInt + 0))) + 0 := by
    obtain ⟨z, e6, e7⟩ := m3 ([(1, -1), (0, 1), (3, -64)], 0) (List.mem_of_getElem? (i := 1) rfl)
    obtain rfl : (-1 * x1.toInt + (1 * x0.toInt + (-64 * x3.toInt + 0))) = z := Option.some.inj (show some (-1 * x1.toInt + (1 * x0.toInt + (-64 * x3.toInt + 0))) = some z from e6)
    exact e7
  have l2 : 0 ≤ (1 * x2.toInt + (-1 * x3.toInt + (64 * x4.toInt + 0))) + 0 := by
    obtain ⟨z, e6, e7⟩ := m3 ([(2, 1), (3, -1), (4, 64)], 0) (List.mem_of_getElem? (i := 2) rfl)
    obtain rfl : (1 * x2.toInt + (-1 * x3.toInt + (64 * x4.toInt + 0))) = z := Option.some.inj (show some (1 * x2.toInt + (-1 * x3.toInt + (64 * x4.toInt + 0))) = some z from e6)
    exact e7
  have l3 : 0 ≤ (-1 * x2.toInt + (1 * x3.toInt + (-64 * x4.toInt + 0))) + 0 := by
    obtain ⟨z, e6, e7⟩ := m3 ([(2, -1), (3, 1), (4, -64)], 0) (List.mem_of_getElem? (i := 3) rfl)
    obtain rfl : (-1 * x2.toInt + (1 * x3.toInt + (-64 * x4.toInt + 0))) = z := Option.some.inj (show some (-1 * x2.toInt + (1 * x3.toInt + (-64 * x4.toInt + 0))) = some z from e6)
    exact e7
  clear m1 m2 m3 m4
  have q0 : rB K n p 160 [rI x0, rI x1, rI x2, rI x4] σ := ro_160.mpr (by
    unfold rFr rTo rBc
    omega)
  exact ⟨p, fun _ => rfl, ⟨(fun q h => by cases h), fun q h => (by cases h), (fun f h => by cases h), (aAllc ⟨_, rfl, (rF_b (r := 2564) (by decide) rfl).mpr q0⟩ (fun f h => by cases h))⟩, [], List.mem_cons_self, fun f h => (by cases h)⟩
theorem rw_rvHK2 {K : Nat → Nat} {n : Nat} {JX : (Nat → jcell) → Prop} : aGho (rF K n) fa_T K n JX ag_rvHK2 := by
  refine aGho_of ⟨rfl, rfl⟩ ?_
  intro p σ ρ hH hX hA hM0
  have hG := aAG_of hA.1 (fun i e v he hv => (hA.2 i e v he hv).1)
  clear hA
  obtain ⟨v0, v1, rfl, g0, g1⟩ := rA_2 hG
  clear hG
  obtain ⟨x0, rfl, b0, d0⟩ := rG_ref (by decide) g0
  obtain ⟨x1, rfl, b1, d1⟩ := aG_int g1
  dsimp only at b1 d1
  obtain ⟨m1, m2, m3, m4⟩ := hM0
  obtain ⟨M, hM⟩ := rMe_ex hH b0 d0
  have f0 : rB K n (rSh rS1 p [rR x0, rI x1]) 22 [rR x0] σ := by
    obtain ⟨w, e6, e7⟩ := m4 (353, [0, 0, 1]) (List.mem_of_getElem? (i := 0) rfl)
    obtain rfl : [rR x0, rR x0, rI x1] = w := Option.some.inj (show some [rR x0, rR x0, rI x1] = some w from e6)
    exact (rF_g (r := 353) (by decide)).mp e7
  obtain ⟨hq9, hR⟩ := ro_22.mp f0
  have hp : p.2 = none := rSh_n1 hq9
  clear hq9
  rw [rSh_mk hp] at hR
  obtain rfl : M = rM4 p.1 x1.toInt := rMg_u hM hR.1
  have f1 : rB K n p 24 [] σ := by
    obtain ⟨w, e6, e7⟩ := m4 (384, []) (List.mem_of_getElem? (i := 1) rfl)
    obtain rfl : [] = w := Option.some.inj (show some [] = some w from e6)
    exact (rF_b (r := 384) (by decide) rfl).mp e7
  have f1 := ro_24.mp f1
  have f2 : rB K n p 25 [rI x1] σ := by
    obtain ⟨w, e6, e7⟩ := m4 (401, [1]) (List.mem_of_getElem? (i := 2) rfl)
    obtain rfl : [rI x1] = w := Option.some.inj (show some [rI x1] = some w from e6)
    exact (rF_b (r := 401) (by decide) rfl).mp e7
  have f2 := ro_25.mp f2
  clear m1 m2 m3 m4
  have q0 : rB K n p 139 [rR x0] σ := ro_139.mpr ⟨_, hM, by
    exact rKs_4 f1 f2⟩
  exact ⟨p, fun _ => rfl, ⟨(fun q h => by cases h), fun q h => (by cases h), (fun f h => by cases h), (aAllc ⟨_, rfl, (rF_b (r := 2225) (by decide) rfl).mpr q0⟩ (fun f h => by cases h))⟩, [], List.mem_cons_self, fun f h => (by cases h)⟩
theorem rw_rvIL0 {K : Nat → Nat} {n : Nat} {JX : (Nat → jcell) → Prop} : aGho (rF K n) fa_T K n JX ag_rvIL0 := by
  refine aGho_of ⟨rfl, rfl⟩ ?_
  intro p σ ρ hH hX hA hM0
  have hG := aAG_of hA.1 (fun i e v he hv => (hA.2 i e v he hv).1)
  clear hA
  obtain ⟨v0, v1, v2, v3, v4, v5, rfl, g0, g1, g2, g3, g4, g5⟩ := rA_6 hG
  clear hG
  obtain ⟨x0, rfl, b0, d0⟩ := rG_ref (by decide) g0
  obtain ⟨x1, rfl, b1, d1⟩ := aG_int g1
  dsimp only at b1 d1
  obtain ⟨x2, rfl, b2, d2⟩ := aG_int g2
  dsimp only at b2 d2
  obtain ⟨x3, rfl, b3, d3⟩ := aG_int g3
  dsimp only at b3 d3
  obtain ⟨x4, rfl, b4, d4⟩ := aG_int g4
  dsimp only at b4 d4
  obtain ⟨x5, rfl, b5, d5⟩ := aG_int g5
  dsimp only at b5 d5
  obtain ⟨m1, m2, m3, m4⟩ := hM0
  obtain ⟨M, hM⟩ := rMe_ex hH b0 d0
  obtain ⟨a0, c0, fs0, w0, e1, s0, t0, e4⟩ := m1 (0, 3, 3) (List.mem_of_getElem? (i := 0) rfl)
  obtain rfl : x0 = a0 := Sum.inl.inj (Option.some.inj (Sum.inr.inj (Sum.inr.inj (Option.some.inj (show some (rR x0) = some _ from e1)))))
  obtain rfl : rI x3 = w0 := Option.some.inj (show some (rI x3) = some w0 from e4)
  clear e1 e4
  have l0 : 0 ≤ (1 * x2.toInt + (1 * x3.toInt + 0)) + -1 := by
    obtain ⟨z, e6, e7⟩ := m3 ([(2, 1), (3, 1)], -1) (List.mem_of_getElem? (i := 0) rfl)
    obtain rfl : (1 * x2.toInt + (1 * x3.toInt + 0)) = z := Option.some.inj (show some (1 * x2.toInt + (1 * x3.toInt + 0)) = some z from e6)
    exact e7
  have l1 : 0 ≤ (-1 * x2.toInt + (-1 * x3.toInt + 0)) + 1 := by
    obtain ⟨z, e6, e7⟩ := m3 ([(2, -1), (3, -1)], 1) (List.mem_of_getElem? (i := 1) rfl)
    obtain rfl : (-1 * x2.toInt + (-1 * x3.toInt + 0)) = z := Option.some.inj (show some (-1 * x2.toInt + (-1 * x3.toInt + 0)) = some z from e6)
    exact e7
  have f0 : rB K n (rSh rS1 p [rR x0, rI x1]) 22 [rR x0] σ := by
    obtain ⟨w, e6, e7⟩ := m4 (353, [0, 0, 1]) (List.mem_of_getElem? (i := 0) rfl)
    obtain rfl : [rR x0, rR x0, rI x1] = w := Option.some.inj (show some [rR x0, rR x0, rI x1] = some w from e6)
    exact (rF_g (r := 353) (by decide)).mp e7
  obtain ⟨hq9, hR⟩ := ro_22.mp f0
  have hp : p.2 = none := rSh_n1 hq9
  clear hq9
  rw [rSh_mk hp] at hR
  obtain rfl : M = rM4 p.1 x1.toInt := rMg_u hM hR.1
  have uS : (rMk p.1 x1.toInt).2.1 = x3.toInt := rRX_f hR.2.1 s0 t0
  have f1 : rB K n p 24 [] σ := by
    obtain ⟨w, e6, e7⟩ := m4 (384, []) (List.mem_of_getElem? (i := 1) rfl)
    obtain rfl : [] = w := Option.some.inj (show some [] = some w from e6)
    exact (rF_b (r := 384) (by decide) rfl).mp e7
  have f1 := ro_24.mp f1
  have f2 : rB K n p 25 [rI x1] σ := by
    obtain ⟨w, e6, e7⟩ := m4 (401, [1]) (List.mem_of_getElem? (i := 2) rfl)
    obtain rfl : [rI x1] = w := Option.some.inj (show some [rI x1] = some w from e6)
    exact (rF_b (r := 401) (by decide) rfl).mp e7
  have f2 := ro_25.mp f2
  have f3 : rB K n p 140 [rR x0, rI x2, rI x4] σ := by
    obtain ⟨w, e6, e7⟩ := m4 (2243, [0, 2, 4]) (List.mem_of_getElem? (i := 3) rfl)
    obtain rfl : [rR x0, rI x2, rI x4] = w := Option.some.inj (show some [rR x0, rI x2, rI x4] = some w from e6)
    exact (rF_b (r := 2243) (by decide) rfl).mp e7
  obtain ⟨M9, h9, f3⟩ := ro_140.mp f3
  obtain rfl := rMg_u hM h9
  clear h9
  clear m1 m2 m3 m4
  have q0 : rB K n p 29 [rI x1, rI x5] σ := ro_29.mpr (by
    have uS2 : 1 - p.1.2.1 = x3.toInt := uS
    have es : x2.toInt = p.1.2.1 := by omega
    obtain ⟨s, k1, k2⟩ := f3
    rw [es] at k1 k2
    refine Or.inl ⟨by omega, (rMk_gd f1 f2).mpr (fun t ht hk => ?_)⟩
    have h1 := f1.1
    have h2 := f1.2.1
    obtain ⟨s0, -, -, -, hu⟩ := rKs_4 f1 f2 p.1.2.1 h1 h2
    obtain rfl : t = s := (hu t ht).trans (hu s k1.2.2.1).symm
    rcases k2 with k2 | k2
    · have := k2.1; omega
    · exact k2.2 hk)
  exact ⟨p, fun _ => rfl, ⟨(fun q h => by cases h), fun q h => (by cases h), (fun f h => by cases h), (aAllc ⟨_, rfl, (rF_b (r := 466) (by decide) rfl).mpr q0⟩ (fun f h => by cases h))⟩, [], List.mem_cons_self, fun f h => (by cases h)⟩
theorem rw_rvIL1 {K : Nat → Nat} {n : Nat} {JX : (Nat → jcell) → Prop} : aGho (rF K n) fa_T K n JX ag_rvIL1 := by
  refine aGho_of ⟨rfl, rfl⟩ ?_
  intro p σ ρ hH hX hA hM0
  have hG := aAG_of hA.1 (fun i e v he hv => (hA.2 i e v he hv).1)
  clear hA
  obtain ⟨v0, v1, v2, v3, v4, v5, rfl, g0, g1, g2, g3, g4, g5⟩ := rA_6 hG
  clear hG
  obtain ⟨x0, rfl, b0, d0⟩ := rG_ref (by decide) g0
  obtain ⟨x1, rfl, b1, d1⟩ := aG_int g1
  dsimp only at b1 d1
  obtain ⟨x2, rfl, b2, d2⟩ := aG_int g2
  dsimp only at b2 d2
  obtain ⟨x3, rfl, b3, d3⟩ := aG_int g3
  dsimp only at b3 d3
  obtain ⟨x4, rfl, b4, d4⟩ := aG_int g4
  dsimp only at b4 d4
  obtain ⟨x5, rfl, b5, d5⟩ := aG_int g5
  dsimp only at b5 d5
  obtain ⟨m1, m2, m3, m4⟩ := hM0
  obtain ⟨M, hM⟩ := rMe_ex hH b0 d0
  obtain ⟨a0, c0, fs0, w0, e1, s0, t0, e4⟩ := m1 (0, 3, 3) (List.mem_of_getElem? (i := 0) rfl)
  obtain rfl : x0 = a0 := Sum.inl.inj (Option.some.inj (Sum.inr.inj (Sum.inr.inj (Option.some.inj (show some (rR x0) = some _ from e1)))))
  obtain rfl : rI x3 = w0 := Option.some.inj (show some (rI x3) = some w0 from e4)
  clear e1 e4
  have l0 : 0 ≤ (1 * x2.toInt + (1 * x3.toInt + 0)) + -1 := by
    obtain ⟨z, e6, e7⟩ := m3 ([(2, 1), (3, 1)], -1) (List.mem_of_getElem? (i := 0) rfl)
    obtain rfl : (1 * x2.toInt + (1 * x3.toInt + 0)) = z := Option.some.inj (show some (1 * x2.toInt + (1 * x3.toInt + 0)) = some z from e6)
    exact e7
  have l1 : 0 ≤ (-1 * x2.toInt + (-1 * x3.toInt + 0)) + 1 := by
    obtain ⟨z, e6, e7⟩ := m3 ([(2, -1), (3, -1)], 1) (List.mem_of_getElem? (i := 1) rfl)
    obtain rfl : (-1 * x2.toInt + (-1 * x3.toInt + 0)) = z := Option.some.inj (show some (-1 * x2.toInt + (-1 * x3.toInt + 0)) = some z from e6)
    exact e7
  have f0 : rB K n (rSh rS1 p [rR x0, rI x1]) 22 [rR x0] σ := by
    obtain ⟨w, e6, e7⟩ := m4 (353, [0, 0, 1]) (List.mem_of_getElem? (i := 0) rfl)
    obtain rfl : [rR x0, rR x0, rI x1] = w := Option.some.inj (show some [rR x0, rR x0, rI x1] = some w from e6)
    exact (rF_g (r := 353) (by decide)).mp e7
  obtain ⟨hq9, hR⟩ := ro_22.mp f0
  have hp : p.2 = none := rSh_n1 hq9
  clear hq9
  rw [rSh_mk hp] at hR
  obtain rfl : M = rM4 p.1 x1.toInt := rMg_u hM hR.1
  have uS : (rMk p.1 x1.toInt).2.1 = x3.toInt := rRX_f hR.2.1 s0 t0
  have f1 : rB K n p 24 [] σ := by
    obtain ⟨w, e6, e7⟩ := m4 (384, []) (List.mem_of_getElem? (i := 1) rfl)
    obtain rfl : [] = w := Option.some.inj (show some [] = some w from e6)
    exact (rF_b (r := 384) (by decide) rfl).mp e7
  have f1 := ro_24.mp f1
  have f2 : rB K n p 25 [rI x1] σ := by
    obtain ⟨w, e6, e7⟩ := m4 (401, [1]) (List.mem_of_getElem? (i := 2) rfl)
    obtain rfl : [rI x1] = w := Option.some.inj (show some [rI x1] = some w from e6)
    exact (rF_b (r := 401) (by decide) rfl).mp e7
  have f2 := ro_25.mp f2
  have f3 : rB K n p 140 [rR x0, rI x2, rI x4] σ := by
    obtain ⟨w, e6, e7⟩ := m4 (2243, [0, 2, 4]) (List.mem_of_getElem? (i := 3) rfl)
    obtain rfl : [rR x0, rI x2, rI x4] = w := Option.some.inj (show some [rR x0, rI x2, rI x4] = some w from e6)
    exact (rF_b (r := 2243) (by decide) rfl).mp e7
  obtain ⟨M9, h9, f3⟩ := ro_140.mp f3
  obtain rfl := rMg_u hM h9
  clear h9
  clear m1 m2 m3 m4
  have q0 : rB K n p 29 [rI x1, rI x5] σ := ro_29.mpr (by
    have uS2 : 1 - p.1.2.1 = x3.toInt := uS
    have es : x2.toInt = p.1.2.1 := by omega
    obtain ⟨s, k1, k2⟩ := f3
    rw [es] at k1 k2
    refine Or.inr ⟨by omega, fun h => ?_⟩
    rcases k2 with k2 | k2
    · exact (rMk_gd f1 f2).mp h s k1.2.2.1 k2.2
    · have := k2.1; omega)
  exact ⟨p, fun _ => rfl, ⟨(fun q h => by cases h), fun q h => (by cases h), (fun f h => by cases h), (aAllc ⟨_, rfl, (rF_b (r := 466) (by decide) rfl).mpr q0⟩ (fun f h => by cases h))⟩, [], List.mem_cons_self, fun f h => (by cases h)⟩
theorem rw_rvUDc {K : Nat → Nat} {n : Nat} {JX : (Nat → jcell) → Prop} : aGho (rF K n) fa_T K n JX ag_rvUDc := by
  refine aGho_of ⟨rfl, rfl⟩ ?_
  intro p σ ρ hH hX hA hM0
  have hG := aAG_of hA.1 (fun i e v he hv => (hA.2 i e v he hv).1)
  clear hA
  obtain ⟨v0, v1, v2, v3, rfl, g0, g1, g2, g3⟩ := rA_4 hG
  clear hG
  obtain ⟨x0, rfl, b0, d0⟩ := rG_ref (by decide) g0
  obtain ⟨x1, rfl, b1, d1⟩ := aG_int g1
  dsimp only at b1 d1
  obtain ⟨x2, rfl, b2, d2⟩ := aG_int g2
  dsimp only at b2 d2
  obtain ⟨x3, rfl, b3, d3⟩ := aG_int g3
  dsimp only at b3 d3
  obtain ⟨m1, m2, m3, m4⟩ := hM0
  obtain ⟨M, hM⟩ := rMe_ex hH b0 d0
  have l0 : 0 ≤ (1 * x1.toInt + (-1 * x2.toInt + 0)) + 0 := by
    obtain ⟨z, e6, e7⟩ := m3 ([(1, 1), (2, -1)], 0) (List.mem_of_getElem? (i := 0) rfl)
    obtain rfl : (1 * x1.toInt + (-1 * x2.toInt + 0)) = z := Option.some.inj (show some (1 * x1.toInt + (-1 * x2.toInt + 0)) = some z from e6)
    exact e7
  have l1 : 0 ≤ (-1 * x1.toInt + (1 * x2.toInt + 0)) + 0 := by
    obtain ⟨z, e6, e7⟩ := m3 ([(1, -1), (2, 1)], 0) (List.mem_of_getElem? (i := 1) rfl)
    obtain rfl : (-1 * x1.toInt + (1 * x2.toInt + 0)) = z := Option.some.inj (show some (-1 * x1.toInt + (1 * x2.toInt + 0)) = some z from e6)
    exact e7
  have f0 : rB K n p 28 [rR x0, rI x1, rI x3] σ := by
    obtain ⟨w, e6, e7⟩ := m4 (451, [0, 1, 3]) (List.mem_of_getElem? (i := 0) rfl)
    obtain rfl : [rR x0, rI x1, rI x3] = w := Option.some.inj (show some [rR x0, rI x1, rI x3] = some w from e6)
    exact (rF_b (r := 451) (by decide) rfl).mp e7
  have f0 := ro_28.mp f0
  clear m1 m2 m3 m4
  have q0 : rB K n p 28 [rR x0, rI x2, rI x3] σ := ro_28.mpr (by
    rw [show x2.toInt = x1.toInt by omega]
    exact f0)
  exact ⟨p, fun _ => rfl, ⟨(fun q h => by cases h), fun q h => (by cases h), (fun f h => by cases h), (aAllc ⟨_, rfl, (rF_b (r := 451) (by decide) rfl).mpr q0⟩ (fun f h => by cases h))⟩, [], List.mem_cons_self, fun f h => (by cases h)⟩
theorem rw_rvSD {K : Nat → Nat} {n : Nat} {JX : (Nat → jcell) → Prop} : aGho (rF K n) fa_T K n JX ag_rvSD := by
  refine aGho_of ⟨rfl, rfl⟩ ?_
  intro p σ ρ hH hX hA hM0
  have hG := aAG_of hA.1 (fun i e v he hv => (hA.2 i e v he hv).1)
  clear hA
  obtain ⟨v0, rfl, g0⟩ := rA_1 hG
  clear hG
  obtain ⟨x0, rfl, b0, d0⟩ := aG_int g0
  dsimp only at b0 d0
  obtain ⟨m1, m2, m3, m4⟩ := hM0
  clear m1 m2 m3 m4
  have hd : (0 ≤ (1 * x0.toInt + 0) + 0 ∧ 0 ≤ (-1 * x0.toInt + 0) + 0) ∨ (0 ≤ (1 * x0.toInt + 0) + -1 ∧ 0 ≤ (-1 * x0.toInt + 0) + 1) := by
    omega
  rcases hd with ⟨w0, w1⟩ | ⟨w0, w1⟩
  · exact ⟨p, fun _ => rfl, ⟨(fun q h => by cases h), fun q h => (by cases h), (fun f h => by cases h), (fun f h => by cases h)⟩, _, List.mem_of_getElem? (i := 0) rfl, (aAllc ⟨_, rfl, w0⟩ (aAllc ⟨_, rfl, w1⟩ (fun f h => by cases h)))⟩
  · exact ⟨p, fun _ => rfl, ⟨(fun q h => by cases h), fun q h => (by cases h), (fun f h => by cases h), (fun f h => by cases h)⟩, _, List.mem_of_getElem? (i := 1) rfl, (aAllc ⟨_, rfl, w0⟩ (aAllc ⟨_, rfl, w1⟩ (fun f h => by cases h)))⟩
theorem rw_rvC0 {K : Nat → Nat} {n : Nat} {JX : (Nat → jcell) → Prop} : aGho (rF K n) fa_T K n JX ag_rvC0 := by
  refine aGho_of ⟨rfl, rfl⟩ ?_
  intro p σ ρ hH hX hA hM0
  have hG := aAG_of hA.1 (fun i e v he hv => (hA.2 i e v he hv).1)
  clear hA
  obtain ⟨v0, v1, rfl, g0, g1⟩ := rA_2 hG
  clear hG
  obtain ⟨x0, rfl, b0, d0⟩ := aG_int g0
  dsimp only at b0 d0
  obtain ⟨x1, rfl, b1, d1⟩ := aG_int g1
  dsimp only at b1 d1
  obtain ⟨m1, m2, m3, m4⟩ := hM0
  clear m1 m2 m3 m4
  have q0 : rB K n p 73 [rI x0, rI x1] σ := ro_73.mpr (by
    refine ⟨?_, fun _ m h1 h2 h3 => ?_⟩
    · show x1.toInt ≤ 31 * x0.toInt + 0
      omega
    · have h4 := rFr_r (m := m)
      have h5 := rTo_r (m := m)
      have h6 := h1.1
      have h7 : 0 ≤ rBc m := by unfold rBc; omega
      omega)
  exact ⟨p, fun _ => rfl, ⟨(fun q h => by cases h), fun q h => (by cases h), (fun f h => by cases h), (aAllc ⟨_, rfl, (rF_b (r := 1170) (by decide) rfl).mpr q0⟩ (fun f h => by cases h))⟩, [], List.mem_cons_self, fun f h => (by cases h)⟩
theorem rw_rvLF0 {K : Nat → Nat} {n : Nat} {JX : (Nat → jcell) → Prop} : aGho (rF K n) fa_T K n JX ag_rvLF0 := by
  refine aGho_of ⟨rfl, rfl⟩ ?_
  intro p σ ρ hH hX hA hM0
  have hG := aAG_of hA.1 (fun i e v he hv => (hA.2 i e v he hv).1)
  clear hA
  obtain ⟨v0, v1, v2, rfl, g0, g1, g2⟩ := rA_3 hG
  clear hG
  obtain ⟨x0, rfl, b0, d0⟩ := rG_ref (by decide) g0
  obtain ⟨x1, rfl, b1, d1⟩ := aG_int g1
  dsimp only at b1 d1
  obtain ⟨x2, rfl, b2, d2⟩ := aG_int g2
  dsimp only at b2 d2
  obtain ⟨m1, m2, m3, m4⟩ := hM0
  obtain ⟨M, hM⟩ := rMe_ex hH b0 d0
  have f0 : rB K n p 22 [rR x0] σ := by
    obtain ⟨w, e6, e7⟩ := m4 (353, [0]) (List.mem_of_getElem? (i := 0) rfl)
    obtain rfl : [rR x0] = w := Option.some.inj (show some [rR x0] = some w from e6)
    exact (rF_b (r := 353) (by decide) rfl).mp e7
  obtain ⟨hp, hR⟩ := ro_22.mp f0
  obtain rfl := rMg_u hM hR.1
  clear m1 m2 m3 m4
  have q0 : rB K n p 76 [rR x0, rI x1, rI x2] σ := ro_76.mpr (by
    obtain ⟨g, h⟩ := rRo_ex (ko := 88) (f := 21) (kr := 103) (len := 20480) hH rfl rfl rfl (by decide) b0 d0
    exact ⟨hp, by omega, g, h, fun _ j h1 h2 => by omega⟩)
  exact ⟨p, fun _ => rfl, ⟨(fun q h => by cases h), fun q h => (by cases h), (fun f h => by cases h), (aAllc ⟨_, rfl, (rF_b (r := 1219) (by decide) rfl).mpr q0⟩ (fun f h => by cases h))⟩, [], List.mem_cons_self, fun f h => (by cases h)⟩
theorem rw_rvCi {K : Nat → Nat} {n : Nat} {JX : (Nat → jcell) → Prop} : aGho (rF K n) fa_T K n JX ag_rvCi := by
  refine aGho_of ⟨rfl, rfl⟩ ?_
  intro p σ ρ hH hX hA hM0
  have hG := aAG_of hA.1 (fun i e v he hv => (hA.2 i e v he hv).1)
  clear hA
  obtain ⟨v0, v1, v2, rfl, g0, g1, g2⟩ := rA_3 hG
  clear hG
  obtain ⟨x0, rfl, b0, d0⟩ := aG_int g0
  dsimp only at b0 d0
  obtain ⟨x1, rfl, b1, d1⟩ := aG_int g1
  dsimp only at b1 d1
  obtain ⟨x2, rfl, b2, d2⟩ := aG_int g2
  dsimp only at b2 d2
  obtain ⟨m1, m2, m3, m4⟩ := hM0
  have f0 : rB K n p 73 [rI x0, rI x1] σ := by
    obtain ⟨w, e6, e7⟩ := m4 (1170, [0, 1]) (List.mem_of_getElem? (i := 0) rfl)
    obtain rfl : [rI x0, rI x1] = w := Option.some.inj (show some [rI x0, rI x1] = some w from e6)
    exact (rF_b (r := 1170) (by decide) rfl).mp e7
  have f0 := ro_73.mp f0
  clear m1 m2 m3 m4
  have q0 : rB K n p 74 [rI x0, rI x2, rI x1] σ := ro_74.mpr (by
    rw [show x2.toInt = 0 by omega]
    exact f0)
  exact ⟨p, fun _ => rfl, ⟨(fun q h => by cases h), fun q h => (by cases h), (fun f h => by cases h), (aAllc ⟨_, rfl, (rF_b (r := 1187) (by decide) rfl).mpr q0⟩ (fun f h => by cases h))⟩, [], List.mem_cons_self, fun f h => (by cases h)⟩
theorem rw_rvOW {K : Nat → Nat} {n : Nat} {JX : (Nat → jcell) → Prop} : aGho (rF K n) fa_T K n JX ag_rvOW := by
  refine aGho_of ⟨rfl, rfl⟩ ?_
  intro p σ ρ hH hX hA hM0
  have hG := aAG_of hA.1 (fun i e v he hv => (hA.2 i e v he hv).1)
  clear hA
  obtain ⟨v0, v1, v2, v3, rfl, g0, g1, g2, g3⟩ := rA_4 hG
  clear hG
  obtain ⟨x0, rfl, b0, d0⟩ := rG_ref (by decide) g0
  obtain ⟨x1, rfl, b1, d1⟩ := aG_int g1
  dsimp only at b1 d1
  obtain ⟨x2, rfl, b2, d2⟩ := aG_int g2
  dsimp only at b2 d2
  obtain ⟨x3, rfl, b3, d3⟩ := aG_int g3
  dsimp only at b3 d3
  obtain ⟨m1, m2, m3, m4⟩ := hM0
  obtain ⟨M, hM⟩ := rMe_ex hH b0 d0
  obtain ⟨a0, c0, fs0, w0, e1, s0, t0, e4⟩ := m1 (0, 3, 2) (List.mem_of_getElem? (i := 0) rfl)
  obtain rfl : x0 = a0 := Sum.inl.inj (Option.some.inj (Sum.inr.inj (Sum.inr.inj (Option.some.inj (show some (rR x0) = some _ from e1)))))
  obtain rfl : rI x2 = w0 := Option.some.inj (show some (rI x2) = some w0 from e4)
  clear e1 e4
  have f0 : rB K n p 22 [rR x0] σ := by
    obtain ⟨w, e6, e7⟩ := m4 (353, [0]) (List.mem_of_getElem? (i := 0) rfl)
    obtain rfl : [rR x0] = w := Option.some.inj (show some [rR x0] = some w from e6)
    exact (rF_b (r := 353) (by decide) rfl).mp e7
  obtain ⟨hp, hR⟩ := ro_22.mp f0
  obtain rfl := rMg_u hM hR.1
  have uS : p.1.2.1 = x2.toInt := rRX_f hR.2.1 s0 t0
  have f1 : rB K n p 156 [rR x0, rI x1, rI x2, rI x3] σ := by
    obtain ⟨w, e6, e7⟩ := m4 (2500, [0, 1, 2, 3]) (List.mem_of_getElem? (i := 1) rfl)
    obtain rfl : [rR x0, rI x1, rI x2, rI x3] = w := Option.some.inj (show some [rR x0, rI x1, rI x2, rI x3] = some w from e6)
    exact (rF_b (r := 2500) (by decide) rfl).mp e7
  obtain ⟨M9, h9, f1⟩ := ro_156.mp f1
  obtain rfl := rMg_u hM h9
  clear h9
  clear m1 m2 m3 m4
  have q0 : rB K n p 82 [rI x1, rI x3] σ := ro_82.mpr (by
    unfold rOwn
    refine ⟨by omega, by omega, by omega⟩)
  exact ⟨p, fun _ => rfl, ⟨(fun q h => by cases h), fun q h => (by cases h), (fun f h => by cases h), (aAllc ⟨_, rfl, (rF_b (r := 1314) (by decide) rfl).mpr q0⟩ (fun f h => by cases h))⟩, [], List.mem_cons_self, fun f h => (by cases h)⟩
theorem rw_rvGZ {K : Nat → Nat} {n : Nat} {JX : (Nat → jcell) → Prop} : aGho (rF K n) fa_T K n JX ag_rvGZ := by
  refine aGho_of ⟨rfl, rfl⟩ ?_
  intro p σ ρ hH hX hA hM0
  have hG := aAG_of hA.1 (fun i e v he hv => (hA.2 i e v he hv).1)
  clear hA
  obtain ⟨v0, v1, v2, rfl, g0, g1, g2⟩ := rA_3 hG
  clear hG
  obtain ⟨x0, rfl, b0, d0⟩ := aG_int g0
  dsimp only at b0 d0
  obtain ⟨x1, rfl, b1, d1⟩ := aG_int g1
  dsimp only at b1 d1
  obtain ⟨x2, rfl⟩ := aG_lng g2
  obtain ⟨m1, m2, m3, m4⟩ := hM0
  have l0 : 0 ≤ (1 * x2.toInt + 0) + 0 := by
    obtain ⟨z, e6, e7⟩ := m3 ([(2, 1)], 0) (List.mem_of_getElem? (i := 0) rfl)
    obtain rfl : (1 * x2.toInt + 0) = z := Option.some.inj (show some (1 * x2.toInt + 0) = some z from e6)
    exact e7
  have l1 : 0 ≤ (-1 * x2.toInt + 0) + 0 := by
    obtain ⟨z, e6, e7⟩ := m3 ([(2, -1)], 0) (List.mem_of_getElem? (i := 1) rfl)
    obtain rfl : (-1 * x2.toInt + 0) = z := Option.some.inj (show some (-1 * x2.toInt + 0) = some z from e6)
    exact e7
  have f0 : rB K n p 82 [rI x0, rI x1] σ := by
    obtain ⟨w, e6, e7⟩ := m4 (1314, [0, 1]) (List.mem_of_getElem? (i := 0) rfl)
    obtain rfl : [rI x0, rI x1] = w := Option.some.inj (show some [rI x0, rI x1] = some w from e6)
    exact (rF_b (r := 1314) (by decide) rfl).mp e7
  have f0 := ro_82.mp f0
  clear m1 m2 m3 m4
  have q0 : rB K n p 83 [rI x0, rL x2] σ := ro_83.mpr (by
    have e : x2 = 0 := Int64.toInt_inj.mp (by rw [show (0 : Int64).toInt = 0 from rfl]; omega)
    intro u h1 h2
    rw [e]
    refine ⟨fun h => absurd h rBt_0, fun h => ?_⟩
    rcases f0.2.2 with h3 | h3
    · have := h3.1; omega
    · exact absurd h.1 h3.2)
  exact ⟨p, fun _ => rfl, ⟨(fun q h => by cases h), fun q h => (by cases h), (fun f h => by cases h), (aAllc ⟨_, rfl, (rF_b (r := 1330) (by decide) rfl).mpr q0⟩ (fun f h => by cases h))⟩, [], List.mem_cons_self, fun f h => (by cases h)⟩
theorem rw_rvGY {K : Nat → Nat} {n : Nat} {JX : (Nat → jcell) → Prop} : aGho (rF K n) fa_T K n JX ag_rvGY := by
  refine aGho_of ⟨rfl, rfl⟩ ?_
  intro p σ ρ hH hX hA hM0
  have hG := aAG_of hA.1 (fun i e v he hv => (hA.2 i e v he hv).1)
  clear hA
  obtain ⟨v0, v1, v2, rfl, g0, g1, g2⟩ := rA_3 hG
  clear hG
  obtain ⟨x0, rfl, b0, d0⟩ := aG_int g0
  dsimp only at b0 d0
  obtain ⟨x1, rfl, b1, d1⟩ := aG_int g1
  dsimp only at b1 d1
  obtain ⟨x2, rfl⟩ := aG_lng g2
  obtain ⟨m1, m2, m3, m4⟩ := hM0
  have f0 : rB K n p 82 [rI x0, rI x1] σ := by
    obtain ⟨w, e6, e7⟩ := m4 (1314, [0, 1]) (List.mem_of_getElem? (i := 0) rfl)
    obtain rfl : [rI x0, rI x1] = w := Option.some.inj (show some [rI x0, rI x1] = some w from e6)
    exact (rF_b (r := 1314) (by decide) rfl).mp e7
  have f0 := ro_82.mp f0
  have f1 : rB K n p 30 [rI x0, rL x2] σ := by
    obtain ⟨w, e6, e7⟩ := m4 (482, [0, 2]) (List.mem_of_getElem? (i := 1) rfl)
    obtain rfl : [rI x0, rL x2] = w := Option.some.inj (show some [rI x0, rL x2] = some w from e6)
    exact (rF_b (r := 482) (by decide) rfl).mp e7
  have f1 := ro_30.mp f1
  clear m1 m2 m3 m4
  have q0 : rB K n p 83 [rI x0, rL x2] σ := ro_83.mpr (by
    intro u h1 h2
    rw [f1 u h1 h2]
    refine ⟨fun h => ⟨?_, h⟩, And.right⟩
    rcases f0.2.2 with h3 | h3
    · exact h3.2
    · have := h3.1; omega)
  exact ⟨p, fun _ => rfl, ⟨(fun q h => by cases h), fun q h => (by cases h), (fun f h => by cases h), (aAllc ⟨_, rfl, (rF_b (r := 1330) (by decide) rfl).mpr q0⟩ (fun f h => by cases h))⟩, [], List.mem_cons_self, fun f h => (by cases h)⟩
theorem rw_rvSH {K : Nat → Nat} {n : Nat} {JX : (Nat → jcell) → Prop} : aGho (rF K n) fa_T K n JX ag_rvSH := by
  refine aGho_of ⟨rfl, rfl⟩ ?_
  intro p σ ρ hH hX hA hM0
  have hG := aAG_of hA.1 (fun i e v he hv => (hA.2 i e v he hv).1)
  clear hA
  obtain ⟨v0, v1, v2, rfl, g0, g1, g2⟩ := rA_3 hG
  clear hG
  obtain ⟨x0, rfl⟩ := aG_lng g0
  obtain ⟨x1, rfl, b1, d1⟩ := aG_int g1
  dsimp only at b1 d1
  obtain ⟨x2, rfl⟩ := aG_lng g2
  obtain ⟨m1, m2, m3, m4⟩ := hM0
  have f0 : rB K n p 103 [rL x0, rI x1, rL x2] σ := by
    obtain ⟨w, e6, e7⟩ := m4 (1651, [0, 1, 2]) (List.mem_of_getElem? (i := 0) rfl)
    obtain rfl : [rL x0, rI x1, rL x2] = w := Option.some.inj (show some [rL x0, rI x1, rL x2] = some w from e6)
    exact (rF_b (r := 1651) (by decide) rfl).mp e7
  have f0 : x2 = x0 >>> (x1.toInt64 &&& 63) := Sum.inl.inj (Sum.inr.inj (ro_103.mp f0))
  clear m1 m2 m3 m4
  have q0 : rB K n p 167 [rL x0, rI x1, rL x2] σ := ro_167.mpr (by
    rw [Int32.ofInt_toInt]
    exact f0)
  exact ⟨p, fun _ => rfl, ⟨(fun q h => by cases h), fun q h => (by cases h), (fun f h => by cases h), (aAllc ⟨_, rfl, (rF_b (r := 2675) (by decide) rfl).mpr q0⟩ (fun f h => by cases h))⟩, [], List.mem_cons_self, fun f h => (by cases h)⟩
theorem rw_rvBT1 {K : Nat → Nat} {n : Nat} {JX : (Nat → jcell) → Prop} : aGho (rF K n) fa_T K n JX ag_rvBT1 := by
  refine aGho_of ⟨rfl, rfl⟩ ?_
  intro p σ ρ hH hX hA hM0
  have hG := aAG_of hA.1 (fun i e v he hv => (hA.2 i e v he hv).1)
  clear hA
  obtain ⟨v0, v1, v2, v3, v4, v5, v6, rfl, g0, g1, g2, g3, g4, g5, g6⟩ := rA_7 hG
  clear hG
  obtain ⟨x0, rfl⟩ := aG_lng g0
  obtain ⟨x1, rfl, b1, d1⟩ := aG_int g1
  dsimp only at b1 d1
  obtain ⟨x2, rfl⟩ := aG_lng g2
  obtain ⟨x3, rfl⟩ := aG_lng g3
  obtain ⟨x4, rfl⟩ := aG_lng g4
  obtain ⟨x5, rfl⟩ := aG_lng g5
  obtain ⟨x6, rfl, b6, d6⟩ := aG_int g6
  dsimp only at b6 d6
  obtain ⟨m1, m2, m3, m4⟩ := hM0
  have l0 : 0 ≤ (1 * x3.toInt + 0) + -1 := by
    obtain ⟨z, e6, e7⟩ := m3 ([(3, 1)], -1) (List.mem_of_getElem? (i := 0) rfl)
    obtain rfl : (1 * x3.toInt + 0) = z := Option.some.inj (show some (1 * x3.toInt + 0) = some z from e6)
    exact e7
  have l1 : 0 ≤ (-1 * x3.toInt + 0) + 1 := by
    obtain ⟨z, e6, e7⟩ := m3 ([(3, -1)], 1) (List.mem_of_getElem? (i := 1) rfl)
    obtain rfl : (-1 * x3.toInt + 0) = z := Option.some.inj (show some (-1 * x3.toInt + 0) = some z from e6)
    exact e7
  have l2 : 0 ≤ (1 * x5.toInt + 0) + -1 := by
    obtain ⟨z, e6, e7⟩ := m3 ([(5, 1)], -1) (List.mem_of_getElem? (i := 2) rfl)
    obtain rfl : (1 * x5.toInt + 0) = z := Option.some.inj (show some (1 * x5.toInt + 0) = some z from e6)
    exact e7
  have l3 : 0 ≤ (-1 * x5.toInt + 0) + 1 := by
    obtain ⟨z, e6, e7⟩ := m3 ([(5, -1)], 1) (List.mem_of_getElem? (i := 3) rfl)
    obtain rfl : (-1 * x5.toInt + 0) = z := Option.some.inj (show some (-1 * x5.toInt + 0) = some z from e6)
    exact e7
  have f0 : rB K n p 167 [rL x0, rI x1, rL x2] σ := by
    obtain ⟨w, e6, e7⟩ := m4 (2675, [0, 1, 2]) (List.mem_of_getElem? (i := 0) rfl)
    obtain rfl : [rL x0, rI x1, rL x2] = w := Option.some.inj (show some [rL x0, rI x1, rL x2] = some w from e6)
    exact (rF_b (r := 2675) (by decide) rfl).mp e7
  have f0 := ro_167.mp f0
  have f1 : rB K n p 101 [rL x2, rL x3, rL x4] σ := by
    obtain ⟨w, e6, e7⟩ := m4 (1619, [2, 3, 4]) (List.mem_of_getElem? (i := 1) rfl)
    obtain rfl : [rL x2, rL x3, rL x4] = w := Option.some.inj (show some [rL x2, rL x3, rL x4] = some w from e6)
    exact (rF_b (r := 1619) (by decide) rfl).mp e7
  have f1 : x4 = x2 &&& x3 := Sum.inl.inj (Sum.inr.inj (ro_101.mp f1))
  have f2 : rB K n p 104 [rL x4, rL x5, rI x6] σ := by
    obtain ⟨w, e6, e7⟩ := m4 (1667, [4, 5, 6]) (List.mem_of_getElem? (i := 2) rfl)
    obtain rfl : [rL x4, rL x5, rI x6] = w := Option.some.inj (show some [rL x4, rL x5, rI x6] = some w from e6)
    exact (rF_b (r := 1667) (by decide) rfl).mp e7
  have f2 : x6 = lg_cmp x4 x5 := Sum.inl.inj (ro_104.mp f2)
  clear m1 m2 m3 m4
  have q0 : rB K n p 164 [rL x0, rI x1] σ := ro_164.mpr (by
    have h1 := aLc_c x4 x5
    rw [← f2] at h1
    have h2 : x4.toInt = 1 := by omega
    have h3 := (rAnd1 f1 (by omega)).mp h2
    have h4 := (rShb f0 b1 d1 (i := 0) (by omega) (by omega)).mp h3
    rw [Int.add_zero] at h4
    exact h4)
  exact ⟨p, fun _ => rfl, ⟨(fun q h => by cases h), fun q h => (by cases h), (fun f h => by cases h), (aAllc ⟨_, rfl, (rF_b (r := 2626) (by decide) rfl).mpr q0⟩ (fun f h => by cases h))⟩, [], List.mem_cons_self, fun f h => (by cases h)⟩
theorem rw_rvTR0 {K : Nat → Nat} {n : Nat} {JX : (Nat → jcell) → Prop} : aGho (rF K n) fa_T K n JX ag_rvTR0 := by
  refine aGho_of ⟨rfl, rfl⟩ ?_
  intro p σ ρ hH hX hA hM0
  have hG := aAG_of hA.1 (fun i e v he hv => (hA.2 i e v he hv).1)
  clear hA
  obtain ⟨v0, rfl, g0⟩ := rA_1 hG
  clear hG
  obtain ⟨x0, rfl, b0, d0⟩ := aG_int g0
  dsimp only at b0 d0
  obtain ⟨m1, m2, m3, m4⟩ := hM0
  clear m1 m2 m3 m4
  have hd : (0 ≤ (1 * x0.toInt + 0) + 1 ∧ 0 ≤ (-1 * x0.toInt + 0) + -1) ∨ (0 ≤ (1 * x0.toInt + 0) + 0 ∧ 0 ≤ (-1 * x0.toInt + 0) + 0) ∨ (0 ≤ (1 * x0.toInt + 0) + -1 ∧ 0 ≤ (-1 * x0.toInt + 0) + 1) := by
    omega
  rcases hd with ⟨w0, w1⟩ | ⟨w0, w1⟩ | ⟨w0, w1⟩
  · exact ⟨p, fun _ => rfl, ⟨(fun q h => by cases h), fun q h => (by cases h), (fun f h => by cases h), (fun f h => by cases h)⟩, _, List.mem_of_getElem? (i := 0) rfl, (aAllc ⟨_, rfl, w0⟩ (aAllc ⟨_, rfl, w1⟩ (fun f h => by cases h)))⟩
  · exact ⟨p, fun _ => rfl, ⟨(fun q h => by cases h), fun q h => (by cases h), (fun f h => by cases h), (fun f h => by cases h)⟩, _, List.mem_of_getElem? (i := 1) rfl, (aAllc ⟨_, rfl, w0⟩ (aAllc ⟨_, rfl, w1⟩ (fun f h => by cases h)))⟩
  · exact ⟨p, fun _ => rfl, ⟨(fun q h => by cases h), fun q h => (by cases h), (fun f h => by cases h), (fun f h => by cases h)⟩, _, List.mem_of_getElem? (i := 2) rfl, (aAllc ⟨_, rfl, w0⟩ (aAllc ⟨_, rfl, w1⟩ (fun f h => by cases h)))⟩
theorem rw_rvCn2 {K : Nat → Nat} {n : Nat} {JX : (Nat → jcell) → Prop} : aGho (rF K n) fa_T K n JX ag_rvCn2 := by
  refine aGho_of ⟨rfl, rfl⟩ ?_
  intro p σ ρ hH hX hA hM0
  have hG := aAG_of hA.1 (fun i e v he hv => (hA.2 i e v he hv).1)
  clear hA
  obtain ⟨v0, v1, v2, v3, rfl, g0, g1, g2, g3⟩ := rA_4 hG
  clear hG
  obtain ⟨x0, rfl, b0, d0⟩ := aG_int g0
  dsimp only at b0 d0
  obtain ⟨x1, rfl, b1, d1⟩ := aG_int g1
  dsimp only at b1 d1
  obtain ⟨x2, rfl, b2, d2⟩ := aG_int g2
  dsimp only at b2 d2
  obtain ⟨x3, rfl, b3, d3⟩ := aG_int g3
  dsimp only at b3 d3
  obtain ⟨m1, m2, m3, m4⟩ := hM0
  have f0 : rB K n p 74 [rI x0, rI x1, rI x2] σ := by
    obtain ⟨w, e6, e7⟩ := m4 (1187, [0, 1, 2]) (List.mem_of_getElem? (i := 0) rfl)
    obtain rfl : [rI x0, rI x1, rI x2] = w := Option.some.inj (show some [rI x0, rI x1, rI x2] = some w from e6)
    exact (rF_b (r := 1187) (by decide) rfl).mp e7
  have f0 := ro_74.mp f0
  have f1 : rB K n p 82 [rI x1, rI x3] σ := by
    obtain ⟨w, e6, e7⟩ := m4 (1314, [1, 3]) (List.mem_of_getElem? (i := 1) rfl)
    obtain rfl : [rI x1, rI x3] = w := Option.some.inj (show some [rI x1, rI x3] = some w from e6)
    exact (rF_b (r := 1314) (by decide) rfl).mp e7
  have f1 := ro_82.mp f1
  clear m1 m2 m3 m4
  have q0 : rB K n p 84 [rI x0, rI x1, rI x2] σ := ro_84.mpr (by
    obtain ⟨k1, k2⟩ := f0
    refine ⟨?_, fun hz => rNo_x (k2 hz) (fun m h1 h2 h3 => ?_)⟩
    · rw [rSm_s b1]
      have := rWt_0 (k := p.1.1 x0.toInt % 8) (s := x0.toInt) (t := x1.toInt)
      omega
    · rcases f1.2.2 with h9 | h9
      · have h4 := h1.2.2.2.1
        rw [h3] at h4
        exact h4 h9.2
      · have := h9.1; omega)
  exact ⟨p, fun _ => rfl, ⟨(fun q h => by cases h), fun q h => (by cases h), (fun f h => by cases h), (aAllc ⟨_, rfl, (rF_b (r := 1347) (by decide) rfl).mpr q0⟩ (fun f h => by cases h))⟩, [], List.mem_cons_self, fun f h => (by cases h)⟩
theorem rw_rvCs {K : Nat → Nat} {n : Nat} {JX : (Nat → jcell) → Prop} : aGho (rF K n) fa_T K n JX ag_rvCs := by
  refine aGho_of ⟨rfl, rfl⟩ ?_
  intro p σ ρ hH hX hA hM0
  have hG := aAG_of hA.1 (fun i e v he hv => (hA.2 i e v he hv).1)
  clear hA
  obtain ⟨v0, v1, v2, v3, rfl, g0, g1, g2, g3⟩ := rA_4 hG
  clear hG
  obtain ⟨x0, rfl, b0, d0⟩ := aG_int g0
  dsimp only at b0 d0
  obtain ⟨x1, rfl, b1, d1⟩ := aG_int g1
  dsimp only at b1 d1
  obtain ⟨x2, rfl, b2, d2⟩ := aG_int g2
  dsimp only at b2 d2
  obtain ⟨x3, rfl, b3, d3⟩ := aG_int g3
  dsimp only at b3 d3
  obtain ⟨m1, m2, m3, m4⟩ := hM0
  have l0 : 0 ≤ (1 * x3.toInt + (-1 * x1.toInt + 0)) + -1 := by
    obtain ⟨z, e6, e7⟩ := m3 ([(3, 1), (1, -1)], -1) (List.mem_of_getElem? (i := 0) rfl)
    obtain rfl : (1 * x3.toInt + (-1 * x1.toInt + 0)) = z := Option.some.inj (show some (1 * x3.toInt + (-1 * x1.toInt + 0)) = some z from e6)
    exact e7
  have l1 : 0 ≤ (-1 * x3.toInt + (1 * x1.toInt + 0)) + 1 := by
    obtain ⟨z, e6, e7⟩ := m3 ([(3, -1), (1, 1)], 1) (List.mem_of_getElem? (i := 1) rfl)
    obtain rfl : (-1 * x3.toInt + (1 * x1.toInt + 0)) = z := Option.some.inj (show some (-1 * x3.toInt + (1 * x1.toInt + 0)) = some z from e6)
    exact e7
  have f0 : rB K n p 84 [rI x0, rI x1, rI x2] σ := by
    obtain ⟨w, e6, e7⟩ := m4 (1347, [0, 1, 2]) (List.mem_of_getElem? (i := 0) rfl)
    obtain rfl : [rI x0, rI x1, rI x2] = w := Option.some.inj (show some [rI x0, rI x1, rI x2] = some w from e6)
    exact (rF_b (r := 1347) (by decide) rfl).mp e7
  have f0 := ro_84.mp f0
  clear m1 m2 m3 m4
  have q0 : rB K n p 74 [rI x0, rI x3, rI x2] σ := ro_74.mpr (by
    rw [show x3.toInt = x1.toInt + 1 by omega]
    exact f0)
  exact ⟨p, fun _ => rfl, ⟨(fun q h => by cases h), fun q h => (by cases h), (fun f h => by cases h), (aAllc ⟨_, rfl, (rF_b (r := 1187) (by decide) rfl).mpr q0⟩ (fun f h => by cases h))⟩, [], List.mem_cons_self, fun f h => (by cases h)⟩
theorem rw_rvCn10 {K : Nat → Nat} {n : Nat} {JX : (Nat → jcell) → Prop} : aGho (rF K n) fa_T K n JX ag_rvCn10 := by
  refine aGho_of ⟨rfl, rfl⟩ ?_
  intro p σ ρ hH hX hA hM0
  have hG := aAG_of hA.1 (fun i e v he hv => (hA.2 i e v he hv).1)
  clear hA
  obtain ⟨v0, v1, v2, v3, v4, v5, v6, v7, v8, rfl, g0, g1, g2, g3, g4, g5, g6, g7, g8⟩ := rA_9 hG
  clear hG
  obtain ⟨x0, rfl, b0, d0⟩ := aG_int g0
  dsimp only at b0 d0
  obtain ⟨x1, rfl, b1, d1⟩ := aG_int g1
  dsimp only at b1 d1
  obtain ⟨x2, rfl, b2, d2⟩ := aG_int g2
  dsimp only at b2 d2
  obtain ⟨x3, rfl⟩ := aG_lng g3
  obtain ⟨x4, rfl⟩ := aG_lng g4
  obtain ⟨x5, rfl⟩ := aG_lng g5
  obtain ⟨x6, rfl⟩ := aG_lng g6
  obtain ⟨x7, rfl⟩ := aG_lng g7
  obtain ⟨x8, rfl, b8, d8⟩ := aG_int g8
  dsimp only at b8 d8
  obtain ⟨m1, m2, m3, m4⟩ := hM0
  have l0 : 0 ≤ (1 * x5.toInt + 0) + -1 := by
    obtain ⟨z, e6, e7⟩ := m3 ([(5, 1)], -1) (List.mem_of_getElem? (i := 0) rfl)
    obtain rfl : (1 * x5.toInt + 0) = z := Option.some.inj (show some (1 * x5.toInt + 0) = some z from e6)
    exact e7
  have l1 : 0 ≤ (-1 * x5.toInt + 0) + 1 := by
    obtain ⟨z, e6, e7⟩ := m3 ([(5, -1)], 1) (List.mem_of_getElem? (i := 1) rfl)
    obtain rfl : (-1 * x5.toInt + 0) = z := Option.some.inj (show some (-1 * x5.toInt + 0) = some z from e6)
    exact e7
  have l2 : 0 ≤ (1 * x7.toInt + 0) + -1 := by
    obtain ⟨z, e6, e7⟩ := m3 ([(7, 1)], -1) (List.mem_of_getElem? (i := 2) rfl)
    obtain rfl : (1 * x7.toInt + 0) = z := Option.some.inj (show some (1 * x7.toInt + 0) = some z from e6)
    exact e7
  have l3 : 0 ≤ (-1 * x7.toInt + 0) + 1 := by
    obtain ⟨z, e6, e7⟩ := m3 ([(7, -1)], 1) (List.mem_of_getElem? (i := 3) rfl)
    obtain rfl : (-1 * x7.toInt + 0) = z := Option.some.inj (show some (-1 * x7.toInt + 0) = some z from e6)
    exact e7
  have f0 : rB K n p 74 [rI x0, rI x1, rI x2] σ := by
    obtain ⟨w, e6, e7⟩ := m4 (1187, [0, 1, 2]) (List.mem_of_getElem? (i := 0) rfl)
    obtain rfl : [rI x0, rI x1, rI x2] = w := Option.some.inj (show some [rI x0, rI x1, rI x2] = some w from e6)
    exact (rF_b (r := 1187) (by decide) rfl).mp e7
  have f0 := ro_74.mp f0
  have f1 : rB K n p 83 [rI x0, rL x3] σ := by
    obtain ⟨w, e6, e7⟩ := m4 (1330, [0, 3]) (List.mem_of_getElem? (i := 1) rfl)
    obtain rfl : [rI x0, rL x3] = w := Option.some.inj (show some [rI x0, rL x3] = some w from e6)
    exact (rF_b (r := 1330) (by decide) rfl).mp e7
  have f1 := ro_83.mp f1
  have f2 : rB K n p 167 [rL x3, rI x1, rL x4] σ := by
    obtain ⟨w, e6, e7⟩ := m4 (2675, [3, 1, 4]) (List.mem_of_getElem? (i := 2) rfl)
    obtain rfl : [rL x3, rI x1, rL x4] = w := Option.some.inj (show some [rL x3, rI x1, rL x4] = some w from e6)
    exact (rF_b (r := 2675) (by decide) rfl).mp e7
  have f2 := ro_167.mp f2
  have f3 : rB K n p 101 [rL x4, rL x5, rL x6] σ := by
    obtain ⟨w, e6, e7⟩ := m4 (1619, [4, 5, 6]) (List.mem_of_getElem? (i := 3) rfl)
    obtain rfl : [rL x4, rL x5, rL x6] = w := Option.some.inj (show some [rL x4, rL x5, rL x6] = some w from e6)
    exact (rF_b (r := 1619) (by decide) rfl).mp e7
  have f3 : x6 = x4 &&& x5 := Sum.inl.inj (Sum.inr.inj (ro_101.mp f3))
  have f4 : rB K n p 104 [rL x6, rL x7, rI x8] σ := by
    obtain ⟨w, e6, e7⟩ := m4 (1667, [6, 7, 8]) (List.mem_of_getElem? (i := 4) rfl)
    obtain rfl : [rL x6, rL x7, rI x8] = w := Option.some.inj (show some [rL x6, rL x7, rI x8] = some w from e6)
    exact (rF_b (r := 1667) (by decide) rfl).mp e7
  have f4 : x8 = lg_cmp x6 x7 := Sum.inl.inj (ro_104.mp f4)
  clear m1 m2 m3 m4
  have q0 : rB K n p 84 [rI x0, rI x1, rI x2] σ := ro_84.mpr (by
    have h1 := aLc_c x6 x7
    rw [← f4] at h1
    have h2 : ¬ x6.toInt = 1 := by omega
    have h3 : ¬ rBt x3 x1.toInt := fun h => h2 ((rAnd1 f3 (by omega)).mpr ((rShb f2 b1 d1 (i := 0) (by omega) (by omega)).mpr (by rw [Int.add_zero]; exact h)))
    obtain ⟨k1, k2⟩ := f0
    refine ⟨?_, fun hz => rNo_x (k2 hz) (fun m h4 h5 h6 => ?_)⟩
    · rw [rSm_s b1]
      have := rWt_0 (k := p.1.1 x0.toInt % 8) (s := x0.toInt) (t := x1.toInt)
      omega
    · obtain ⟨-, -, h7, -, h8, -⟩ := h4
      rw [h5] at h7 h8
      rw [h6] at h8
      exact h3 ((f1 x1.toInt b1 d1).mpr ⟨h7, h8⟩))
  exact ⟨p, fun _ => rfl, ⟨(fun q h => by cases h), fun q h => (by cases h), (fun f h => by cases h), (aAllc ⟨_, rfl, (rF_b (r := 1347) (by decide) rfl).mpr q0⟩ (fun f h => by cases h))⟩, [], List.mem_cons_self, fun f h => (by cases h)⟩
theorem rw_rvCn11 {K : Nat → Nat} {n : Nat} {JX : (Nat → jcell) → Prop} : aGho (rF K n) fa_T K n JX ag_rvCn11 := by
  refine aGho_of ⟨rfl, rfl⟩ ?_
  intro p σ ρ hH hX hA hM0
  have hG := aAG_of hA.1 (fun i e v he hv => (hA.2 i e v he hv).1)
  clear hA
  obtain ⟨v0, v1, v2, v3, v4, v5, v6, v7, v8, rfl, g0, g1, g2, g3, g4, g5, g6, g7, g8⟩ := rA_9 hG
  clear hG
  obtain ⟨x0, rfl, b0, d0⟩ := aG_int g0
  dsimp only at b0 d0
  obtain ⟨x1, rfl, b1, d1⟩ := aG_int g1
  dsimp only at b1 d1
  obtain ⟨x2, rfl, b2, d2⟩ := aG_int g2
  dsimp only at b2 d2
  obtain ⟨x3, rfl⟩ := aG_lng g3
  obtain ⟨x4, rfl⟩ := aG_lng g4
  obtain ⟨x5, rfl⟩ := aG_lng g5
  obtain ⟨x6, rfl⟩ := aG_lng g6
  obtain ⟨x7, rfl⟩ := aG_lng g7
  obtain ⟨x8, rfl, b8, d8⟩ := aG_int g8
  dsimp only at b8 d8
  obtain ⟨m1, m2, m3, m4⟩ := hM0
  have l0 : 0 ≤ (1 * x5.toInt + 0) + -1 := by
    obtain ⟨z, e6, e7⟩ := m3 ([(5, 1)], -1) (List.mem_of_getElem? (i := 0) rfl)
    obtain rfl : (1 * x5.toInt + 0) = z := Option.some.inj (show some (1 * x5.toInt + 0) = some z from e6)
    exact e7
  have l1 : 0 ≤ (-1 * x5.toInt + 0) + 1 := by
    obtain ⟨z, e6, e7⟩ := m3 ([(5, -1)], 1) (List.mem_of_getElem? (i := 1) rfl)
    obtain rfl : (-1 * x5.toInt + 0) = z := Option.some.inj (show some (-1 * x5.toInt + 0) = some z from e6)
    exact e7
  have l2 : 0 ≤ (1 * x7.toInt + 0) + -1 := by
    obtain ⟨z, e6, e7⟩ := m3 ([(7, 1)], -1) (List.mem_of_getElem? (i := 2) rfl)
    obtain rfl : (1 * x7.toInt + 0) = z := Option.some.inj (show some (1 * x7.toInt + 0) = some z from e6)
    exact e7
  have l3 : 0 ≤ (-1 * x7.toInt + 0) + 1 := by
    obtain ⟨z, e6, e7⟩ := m3 ([(7, -1)], 1) (List.mem_of_getElem? (i := 3) rfl)
    obtain rfl : (-1 * x7.toInt + 0) = z := Option.some.inj (show some (-1 * x7.toInt + 0) = some z from e6)
    exact e7
  have f0 : rB K n p 74 [rI x0, rI x1, rI x2] σ := by
    obtain ⟨w, e6, e7⟩ := m4 (1187, [0, 1, 2]) (List.mem_of_getElem? (i := 0) rfl)
    obtain rfl : [rI x0, rI x1, rI x2] = w := Option.some.inj (show some [rI x0, rI x1, rI x2] = some w from e6)
    exact (rF_b (r := 1187) (by decide) rfl).mp e7
  have f0 := ro_74.mp f0
  have f1 : rB K n p 83 [rI x0, rL x3] σ := by
    obtain ⟨w, e6, e7⟩ := m4 (1330, [0, 3]) (List.mem_of_getElem? (i := 1) rfl)
    obtain rfl : [rI x0, rL x3] = w := Option.some.inj (show some [rI x0, rL x3] = some w from e6)
    exact (rF_b (r := 1330) (by decide) rfl).mp e7
  have f1 := ro_83.mp f1
  have f2 : rB K n p 167 [rL x3, rI x1, rL x4] σ := by
    obtain ⟨w, e6, e7⟩ := m4 (2675, [3, 1, 4]) (List.mem_of_getElem? (i := 2) rfl)
    obtain rfl : [rL x3, rI x1, rL x4] = w := Option.some.inj (show some [rL x3, rI x1, rL x4] = some w from e6)
    exact (rF_b (r := 2675) (by decide) rfl).mp e7
  have f2 := ro_167.mp f2
  have f3 : rB K n p 101 [rL x4, rL x5, rL x6] σ := by
    obtain ⟨w, e6, e7⟩ := m4 (1619, [4, 5, 6]) (List.mem_of_getElem? (i := 3) rfl)
    obtain rfl : [rL x4, rL x5, rL x6] = w := Option.some.inj (show some [rL x4, rL x5, rL x6] = some w from e6)
    exact (rF_b (r := 1619) (by decide) rfl).mp e7
  have f3 : x6 = x4 &&& x5 := Sum.inl.inj (Sum.inr.inj (ro_101.mp f3))
  have f4 : rB K n p 104 [rL x6, rL x7, rI x8] σ := by
    obtain ⟨w, e6, e7⟩ := m4 (1667, [6, 7, 8]) (List.mem_of_getElem? (i := 4) rfl)
    obtain rfl : [rL x6, rL x7, rI x8] = w := Option.some.inj (show some [rL x6, rL x7, rI x8] = some w from e6)
    exact (rF_b (r := 1667) (by decide) rfl).mp e7
  have f4 : x8 = lg_cmp x6 x7 := Sum.inl.inj (ro_104.mp f4)
  clear m1 m2 m3 m4
  have q0 : rB K n p 84 [rI x0, rI x1, rI x2] σ := ro_84.mpr (by
    have h1 := aLc_c x6 x7
    rw [← f4] at h1
    have h2 : ¬ x6.toInt = 1 := by omega
    have h3 : ¬ rBt x3 x1.toInt := fun h => h2 ((rAnd1 f3 (by omega)).mpr ((rShb f2 b1 d1 (i := 0) (by omega) (by omega)).mpr (by rw [Int.add_zero]; exact h)))
    obtain ⟨k1, k2⟩ := f0
    refine ⟨?_, fun hz => rNo_x (k2 hz) (fun m h4 h5 h6 => ?_)⟩
    · rw [rSm_s b1]
      have := rWt_0 (k := p.1.1 x0.toInt % 8) (s := x0.toInt) (t := x1.toInt)
      omega
    · obtain ⟨-, -, h7, -, h8, -⟩ := h4
      rw [h5] at h7 h8
      rw [h6] at h8
      exact h3 ((f1 x1.toInt b1 d1).mpr ⟨h7, h8⟩))
  exact ⟨p, fun _ => rfl, ⟨(fun q h => by cases h), fun q h => (by cases h), (fun f h => by cases h), (aAllc ⟨_, rfl, (rF_b (r := 1347) (by decide) rfl).mpr q0⟩ (fun f h => by cases h))⟩, [], List.mem_cons_self, fun f h => (by cases h)⟩
theorem rw_rvCe1b {K : Nat → Nat} {n : Nat} {JX : (Nat → jcell) → Prop} : aGho (rF K n) fa_T K n JX ag_rvCe1b := by
  refine aGho_of ⟨rfl, rfl⟩ ?_
  intro p σ ρ hH hX hA hM0
  have hG := aAG_of hA.1 (fun i e v he hv => (hA.2 i e v he hv).1)
  clear hA
  obtain ⟨v0, v1, v2, v3, v4, v5, v6, rfl, g0, g1, g2, g3, g4, g5, g6⟩ := rA_7 hG
  clear hG
  obtain ⟨x0, rfl, b0, d0⟩ := aG_int g0
  dsimp only at b0 d0
  obtain ⟨x1, rfl, b1, d1⟩ := aG_int g1
  dsimp only at b1 d1
  obtain ⟨x2, rfl, b2, d2⟩ := aG_int g2
  dsimp only at b2 d2
  obtain ⟨x3, rfl⟩ := aG_lng g3
  obtain ⟨x4, rfl⟩ := aG_lng g4
  obtain ⟨x5, rfl⟩ := aG_lng g5
  obtain ⟨x6, rfl, b6, d6⟩ := aG_int g6
  dsimp only at b6 d6
  obtain ⟨m1, m2, m3, m4⟩ := hM0
  have l0 : 0 ≤ (1 * x5.toInt + 0) + 0 := by
    obtain ⟨z, e6, e7⟩ := m3 ([(5, 1)], 0) (List.mem_of_getElem? (i := 0) rfl)
    obtain rfl : (1 * x5.toInt + 0) = z := Option.some.inj (show some (1 * x5.toInt + 0) = some z from e6)
    exact e7
  have l1 : 0 ≤ (-1 * x5.toInt + 0) + 0 := by
    obtain ⟨z, e6, e7⟩ := m3 ([(5, -1)], 0) (List.mem_of_getElem? (i := 1) rfl)
    obtain rfl : (-1 * x5.toInt + 0) = z := Option.some.inj (show some (-1 * x5.toInt + 0) = some z from e6)
    exact e7
  have f0 : rB K n p 74 [rI x0, rI x1, rI x2] σ := by
    obtain ⟨w, e6, e7⟩ := m4 (1187, [0, 1, 2]) (List.mem_of_getElem? (i := 0) rfl)
    obtain rfl : [rI x0, rI x1, rI x2] = w := Option.some.inj (show some [rI x0, rI x1, rI x2] = some w from e6)
    exact (rF_b (r := 1187) (by decide) rfl).mp e7
  have f0 := ro_74.mp f0
  have f1 : rB K n p 83 [rI x0, rL x3] σ := by
    obtain ⟨w, e6, e7⟩ := m4 (1330, [0, 3]) (List.mem_of_getElem? (i := 1) rfl)
    obtain rfl : [rI x0, rL x3] = w := Option.some.inj (show some [rI x0, rL x3] = some w from e6)
    exact (rF_b (r := 1330) (by decide) rfl).mp e7
  have f1 := ro_83.mp f1
  have f2 : rB K n p 167 [rL x3, rI x1, rL x4] σ := by
    obtain ⟨w, e6, e7⟩ := m4 (2675, [3, 1, 4]) (List.mem_of_getElem? (i := 2) rfl)
    obtain rfl : [rL x3, rI x1, rL x4] = w := Option.some.inj (show some [rL x3, rI x1, rL x4] = some w from e6)
    exact (rF_b (r := 2675) (by decide) rfl).mp e7
  have f2 := ro_167.mp f2
  have f3 : rB K n p 104 [rL x4, rL x5, rI x6] σ := by
    obtain ⟨w, e6, e7⟩ := m4 (1667, [4, 5, 6]) (List.mem_of_getElem? (i := 3) rfl)
    obtain rfl : [rL x4, rL x5, rI x6] = w := Option.some.inj (show some [rL x4, rL x5, rI x6] = some w from e6)
    exact (rF_b (r := 1667) (by decide) rfl).mp e7
  have f3 : x6 = lg_cmp x4 x5 := Sum.inl.inj (ro_104.mp f3)
  clear m1 m2 m3 m4
  have q0 : rB K n p 85 [rI x0, rI x2] σ := ro_85.mpr (by
    have h1 := aLc_c x4 x5
    rw [← f3] at h1
    have h2 : x4 = 0 := Int64.toInt_inj.mp (by rw [show (0 : Int64).toInt = 0 from rfl]; omega)
    obtain ⟨k1, k2⟩ := f0
    have hb := rSm_b (k := p.1.1 x0.toInt % 8) (s := x0.toInt) (t := x1.toInt.toNat) (by omega) (by omega) (by omega) (by omega) (by omega)
    refine ⟨?_, fun hz => rNo_e (k2 hz) (fun m h4 h5 h6 => ?_)⟩
    · show x2.toInt ≤ 31 * (x0.toInt + 1) + 0
      omega
    · obtain ⟨-, -, h7, -, h8, -⟩ := h4
      rw [h5] at h7 h8
      have ht := rTo_r (m := m)
      have h9 := (f1 (rTo m) ht.1 ht.2).mpr ⟨h7, h8⟩
      have h10 := (rShb f2 b1 d1 (i := rTo m - x1.toInt) (by omega) (by omega)).mpr (by rw [show x1.toInt + (rTo m - x1.toInt) = rTo m by omega]; exact h9)
      rw [h2] at h10
      exact rBt_0 h10)
  exact ⟨p, fun _ => rfl, ⟨(fun q h => by cases h), fun q h => (by cases h), (fun f h => by cases h), (aAllc ⟨_, rfl, (rF_b (r := 1362) (by decide) rfl).mpr q0⟩ (fun f h => by cases h))⟩, [], List.mem_cons_self, fun f h => (by cases h)⟩
theorem rw_rvCe2 {K : Nat → Nat} {n : Nat} {JX : (Nat → jcell) → Prop} : aGho (rF K n) fa_T K n JX ag_rvCe2 := by
  refine aGho_of ⟨rfl, rfl⟩ ?_
  intro p σ ρ hH hX hA hM0
  have hG := aAG_of hA.1 (fun i e v he hv => (hA.2 i e v he hv).1)
  clear hA
  obtain ⟨v0, v1, v2, rfl, g0, g1, g2⟩ := rA_3 hG
  clear hG
  obtain ⟨x0, rfl, b0, d0⟩ := aG_int g0
  dsimp only at b0 d0
  obtain ⟨x1, rfl, b1, d1⟩ := aG_int g1
  dsimp only at b1 d1
  obtain ⟨x2, rfl, b2, d2⟩ := aG_int g2
  dsimp only at b2 d2
  obtain ⟨m1, m2, m3, m4⟩ := hM0
  have f0 : rB K n p 74 [rI x0, rI x1, rI x2] σ := by
    obtain ⟨w, e6, e7⟩ := m4 (1187, [0, 1, 2]) (List.mem_of_getElem? (i := 0) rfl)
    obtain rfl : [rI x0, rI x1, rI x2] = w := Option.some.inj (show some [rI x0, rI x1, rI x2] = some w from e6)
    exact (rF_b (r := 1187) (by decide) rfl).mp e7
  have f0 := ro_74.mp f0
  clear m1 m2 m3 m4
  have q0 : rB K n p 85 [rI x0, rI x2] σ := ro_85.mpr (by
    obtain ⟨k1, k2⟩ := f0
    have hb := rSm_b (k := p.1.1 x0.toInt % 8) (s := x0.toInt) (t := x1.toInt.toNat) (by omega) (by omega) (by omega) (by omega) (by omega)
    refine ⟨?_, fun hz => rNo_e (k2 hz) (fun m h4 h5 h6 => ?_)⟩
    · show x2.toInt ≤ 31 * (x0.toInt + 1) + 0
      omega
    · have ht := rTo_r (m := m)
      omega)
  exact ⟨p, fun _ => rfl, ⟨(fun q h => by cases h), fun q h => (by cases h), (fun f h => by cases h), (aAllc ⟨_, rfl, (rF_b (r := 1362) (by decide) rfl).mpr q0⟩ (fun f h => by cases h))⟩, [], List.mem_cons_self, fun f h => (by cases h)⟩
theorem rw_rvCf {K : Nat → Nat} {n : Nat} {JX : (Nat → jcell) → Prop} : aGho (rF K n) fa_T K n JX ag_rvCf := by
  refine aGho_of ⟨rfl, rfl⟩ ?_
  intro p σ ρ hH hX hA hM0
  have hG := aAG_of hA.1 (fun i e v he hv => (hA.2 i e v he hv).1)
  clear hA
  obtain ⟨v0, v1, v2, rfl, g0, g1, g2⟩ := rA_3 hG
  clear hG
  obtain ⟨x0, rfl, b0, d0⟩ := aG_int g0
  dsimp only at b0 d0
  obtain ⟨x1, rfl, b1, d1⟩ := aG_int g1
  dsimp only at b1 d1
  obtain ⟨x2, rfl, b2, d2⟩ := aG_int g2
  dsimp only at b2 d2
  obtain ⟨m1, m2, m3, m4⟩ := hM0
  have l0 : 0 ≤ (1 * x2.toInt + (-1 * x0.toInt + 0)) + -1 := by
    obtain ⟨z, e6, e7⟩ := m3 ([(2, 1), (0, -1)], -1) (List.mem_of_getElem? (i := 0) rfl)
    obtain rfl : (1 * x2.toInt + (-1 * x0.toInt + 0)) = z := Option.some.inj (show some (1 * x2.toInt + (-1 * x0.toInt + 0)) = some z from e6)
    exact e7
  have l1 : 0 ≤ (-1 * x2.toInt + (1 * x0.toInt + 0)) + 1 := by
    obtain ⟨z, e6, e7⟩ := m3 ([(2, -1), (0, 1)], 1) (List.mem_of_getElem? (i := 1) rfl)
    obtain rfl : (-1 * x2.toInt + (1 * x0.toInt + 0)) = z := Option.some.inj (show some (-1 * x2.toInt + (1 * x0.toInt + 0)) = some z from e6)
    exact e7
  have f0 : rB K n p 85 [rI x0, rI x1] σ := by
    obtain ⟨w, e6, e7⟩ := m4 (1362, [0, 1]) (List.mem_of_getElem? (i := 0) rfl)
    obtain rfl : [rI x0, rI x1] = w := Option.some.inj (show some [rI x0, rI x1] = some w from e6)
    exact (rF_b (r := 1362) (by decide) rfl).mp e7
  have f0 := ro_85.mp f0
  clear m1 m2 m3 m4
  have q0 : rB K n p 73 [rI x2, rI x1] σ := ro_73.mpr (by
    rw [show x2.toInt = x0.toInt + 1 by omega]
    exact f0)
  exact ⟨p, fun _ => rfl, ⟨(fun q h => by cases h), fun q h => (by cases h), (fun f h => by cases h), (aAllc ⟨_, rfl, (rF_b (r := 1170) (by decide) rfl).mpr q0⟩ (fun f h => by cases h))⟩, [], List.mem_cons_self, fun f h => (by cases h)⟩
theorem rw_rvLS1a {K : Nat → Nat} {n : Nat} {JX : (Nat → jcell) → Prop} : aGho (rF K n) fa_T K n JX ag_rvLS1a := by
  refine aGho_of ⟨rfl, rfl⟩ ?_
  intro p σ ρ hH hX hA hM0
  have hG := aAG_of hA.1 (fun i e v he hv => (hA.2 i e v he hv).1)
  clear hA
  obtain ⟨v0, v1, v2, v3, v4, rfl, g0, g1, g2, g3, g4⟩ := rA_5 hG
  clear hG
  obtain ⟨x0, rfl, b0, d0⟩ := rG_ref (by decide) g0
  obtain ⟨x1, rfl, b1, d1⟩ := aG_int g1
  dsimp only at b1 d1
  obtain ⟨x2, rfl, b2, d2⟩ := aG_int g2
  dsimp only at b2 d2
  obtain ⟨x3, rfl, b3, d3⟩ := aG_int g3
  dsimp only at b3 d3
  obtain ⟨x4, rfl, b4, d4⟩ := aG_int g4
  dsimp only at b4 d4
  obtain ⟨m1, m2, m3, m4⟩ := hM0
  obtain ⟨M, hM⟩ := rMe_ex hH b0 d0
  have f0 : rB K n p 22 [rR x0] σ := by
    obtain ⟨w, e6, e7⟩ := m4 (353, [0]) (List.mem_of_getElem? (i := 0) rfl)
    obtain rfl : [rR x0] = w := Option.some.inj (show some [rR x0] = some w from e6)
    exact (rF_b (r := 353) (by decide) rfl).mp e7
  obtain ⟨hp, hR⟩ := ro_22.mp f0
  obtain rfl := rMg_u hM hR.1
  have f1 : rB K n p 148 [rR x0, rI x1, rI x3] σ := by
    obtain ⟨w, e6, e7⟩ := m4 (2371, [0, 1, 3]) (List.mem_of_getElem? (i := 1) rfl)
    obtain rfl : [rR x0, rI x1, rI x3] = w := Option.some.inj (show some [rR x0, rI x1, rI x3] = some w from e6)
    exact (rF_b (r := 2371) (by decide) rfl).mp e7
  obtain ⟨M9, h9, f1⟩ := ro_148.mp f1
  obtain rfl := rMg_u hM h9
  clear h9
  clear m1 m2 m3 m4
  have q0 : rB K n p 86 [rI x1, rI x2, rI x4] σ := ro_86.mpr (by
    unfold rLs
    omega)
  exact ⟨p, fun _ => rfl, ⟨(fun q h => by cases h), fun q h => (by cases h), (fun f h => by cases h), (aAllc ⟨_, rfl, (rF_b (r := 1379) (by decide) rfl).mpr q0⟩ (fun f h => by cases h))⟩, [], List.mem_cons_self, fun f h => (by cases h)⟩
theorem rw_rvLS1b {K : Nat → Nat} {n : Nat} {JX : (Nat → jcell) → Prop} : aGho (rF K n) fa_T K n JX ag_rvLS1b := by
  refine aGho_of ⟨rfl, rfl⟩ ?_
  intro p σ ρ hH hX hA hM0
  have hG := aAG_of hA.1 (fun i e v he hv => (hA.2 i e v he hv).1)
  clear hA
  obtain ⟨v0, v1, v2, v3, v4, rfl, g0, g1, g2, g3, g4⟩ := rA_5 hG
  clear hG
  obtain ⟨x0, rfl, b0, d0⟩ := rG_ref (by decide) g0
  obtain ⟨x1, rfl, b1, d1⟩ := aG_int g1
  dsimp only at b1 d1
  obtain ⟨x2, rfl, b2, d2⟩ := aG_int g2
  dsimp only at b2 d2
  obtain ⟨x3, rfl, b3, d3⟩ := aG_int g3
  dsimp only at b3 d3
  obtain ⟨x4, rfl, b4, d4⟩ := aG_int g4
  dsimp only at b4 d4
  obtain ⟨m1, m2, m3, m4⟩ := hM0
  obtain ⟨M, hM⟩ := rMe_ex hH b0 d0
  have f0 : rB K n p 22 [rR x0] σ := by
    obtain ⟨w, e6, e7⟩ := m4 (353, [0]) (List.mem_of_getElem? (i := 0) rfl)
    obtain rfl : [rR x0] = w := Option.some.inj (show some [rR x0] = some w from e6)
    exact (rF_b (r := 353) (by decide) rfl).mp e7
  obtain ⟨hp, hR⟩ := ro_22.mp f0
  obtain rfl := rMg_u hM hR.1
  have f1 : rB K n p 148 [rR x0, rI x1, rI x3] σ := by
    obtain ⟨w, e6, e7⟩ := m4 (2371, [0, 1, 3]) (List.mem_of_getElem? (i := 1) rfl)
    obtain rfl : [rR x0, rI x1, rI x3] = w := Option.some.inj (show some [rR x0, rI x1, rI x3] = some w from e6)
    exact (rF_b (r := 2371) (by decide) rfl).mp e7
  obtain ⟨M9, h9, f1⟩ := ro_148.mp f1
  obtain rfl := rMg_u hM h9
  clear h9
  clear m1 m2 m3 m4
  have q0 : rB K n p 86 [rI x1, rI x2, rI x4] σ := ro_86.mpr (by
    unfold rLs
    omega)
  exact ⟨p, fun _ => rfl, ⟨(fun q h => by cases h), fun q h => (by cases h), (fun f h => by cases h), (aAllc ⟨_, rfl, (rF_b (r := 1379) (by decide) rfl).mpr q0⟩ (fun f h => by cases h))⟩, [], List.mem_cons_self, fun f h => (by cases h)⟩
theorem rw_rvLS0a {K : Nat → Nat} {n : Nat} {JX : (Nat → jcell) → Prop} : aGho (rF K n) fa_T K n JX ag_rvLS0a := by
  refine aGho_of ⟨rfl, rfl⟩ ?_
  intro p σ ρ hH hX hA hM0
  have hG := aAG_of hA.1 (fun i e v he hv => (hA.2 i e v he hv).1)
  clear hA
  obtain ⟨v0, v1, v2, v3, v4, rfl, g0, g1, g2, g3, g4⟩ := rA_5 hG
  clear hG
  obtain ⟨x0, rfl, b0, d0⟩ := rG_ref (by decide) g0
  obtain ⟨x1, rfl, b1, d1⟩ := aG_int g1
  dsimp only at b1 d1
  obtain ⟨x2, rfl, b2, d2⟩ := aG_int g2
  dsimp only at b2 d2
  obtain ⟨x3, rfl, b3, d3⟩ := aG_int g3
  dsimp only at b3 d3
  obtain ⟨x4, rfl, b4, d4⟩ := aG_int g4
  dsimp only at b4 d4
  obtain ⟨m1, m2, m3, m4⟩ := hM0
  obtain ⟨M, hM⟩ := rMe_ex hH b0 d0
  have f0 : rB K n p 22 [rR x0] σ := by
    obtain ⟨w, e6, e7⟩ := m4 (353, [0]) (List.mem_of_getElem? (i := 0) rfl)
    obtain rfl : [rR x0] = w := Option.some.inj (show some [rR x0] = some w from e6)
    exact (rF_b (r := 353) (by decide) rfl).mp e7
  obtain ⟨hp, hR⟩ := ro_22.mp f0
  obtain rfl := rMg_u hM hR.1
  have f1 : rB K n p 148 [rR x0, rI x1, rI x3] σ := by
    obtain ⟨w, e6, e7⟩ := m4 (2371, [0, 1, 3]) (List.mem_of_getElem? (i := 1) rfl)
    obtain rfl : [rR x0, rI x1, rI x3] = w := Option.some.inj (show some [rR x0, rI x1, rI x3] = some w from e6)
    exact (rF_b (r := 2371) (by decide) rfl).mp e7
  obtain ⟨M9, h9, f1⟩ := ro_148.mp f1
  obtain rfl := rMg_u hM h9
  clear h9
  clear m1 m2 m3 m4
  have q0 : rB K n p 86 [rI x1, rI x2, rI x4] σ := ro_86.mpr (by
    unfold rLs
    omega)
  exact ⟨p, fun _ => rfl, ⟨(fun q h => by cases h), fun q h => (by cases h), (fun f h => by cases h), (aAllc ⟨_, rfl, (rF_b (r := 1379) (by decide) rfl).mpr q0⟩ (fun f h => by cases h))⟩, [], List.mem_cons_self, fun f h => (by cases h)⟩
theorem rw_rvLS0b0 {K : Nat → Nat} {n : Nat} {JX : (Nat → jcell) → Prop} : aGho (rF K n) fa_T K n JX ag_rvLS0b0 := by
  refine aGho_of ⟨rfl, rfl⟩ ?_
  intro p σ ρ hH hX hA hM0
  have hG := aAG_of hA.1 (fun i e v he hv => (hA.2 i e v he hv).1)
  clear hA
  obtain ⟨v0, v1, v2, v3, v4, rfl, g0, g1, g2, g3, g4⟩ := rA_5 hG
  clear hG
  obtain ⟨x0, rfl, b0, d0⟩ := rG_ref (by decide) g0
  obtain ⟨x1, rfl, b1, d1⟩ := aG_int g1
  dsimp only at b1 d1
  obtain ⟨x2, rfl, b2, d2⟩ := aG_int g2
  dsimp only at b2 d2
  obtain ⟨x3, rfl, b3, d3⟩ := aG_int g3
  dsimp only at b3 d3
  obtain ⟨x4, rfl, b4, d4⟩ := aG_int g4
  dsimp only at b4 d4
  obtain ⟨m1, m2, m3, m4⟩ := hM0
  obtain ⟨M, hM⟩ := rMe_ex hH b0 d0
  have f0 : rB K n p 22 [rR x0] σ := by
    obtain ⟨w, e6, e7⟩ := m4 (353, [0]) (List.mem_of_getElem? (i := 0) rfl)
    obtain rfl : [rR x0] = w := Option.some.inj (show some [rR x0] = some w from e6)
    exact (rF_b (r := 353) (by decide) rfl).mp e7
  obtain ⟨hp, hR⟩ := ro_22.mp f0
  obtain rfl := rMg_u hM hR.1
  have f1 : rB K n p 148 [rR x0, rI x1, rI x3] σ := by
    obtain ⟨w, e6, e7⟩ := m4 (2371, [0, 1, 3]) (List.mem_of_getElem? (i := 1) rfl)
    obtain rfl : [rR x0, rI x1, rI x3] = w := Option.some.inj (show some [rR x0, rI x1, rI x3] = some w from e6)
    exact (rF_b (r := 2371) (by decide) rfl).mp e7
  obtain ⟨M9, h9, f1⟩ := ro_148.mp f1
  obtain rfl := rMg_u hM h9
  clear h9
  clear m1 m2 m3 m4
  have q0 : rB K n p 86 [rI x1, rI x2, rI x4] σ := ro_86.mpr (by
    unfold rLs
    omega)
  exact ⟨p, fun _ => rfl, ⟨(fun q h => by cases h), fun q h => (by cases h), (fun f h => by cases h), (aAllc ⟨_, rfl, (rF_b (r := 1379) (by decide) rfl).mpr q0⟩ (fun f h => by cases h))⟩, [], List.mem_cons_self, fun f h => (by cases h)⟩
theorem rw_rvLS0b1 {K : Nat → Nat} {n : Nat} {JX : (Nat → jcell) → Prop} : aGho (rF K n) fa_T K n JX ag_rvLS0b1 := by
  refine aGho_of ⟨rfl, rfl⟩ ?_
  intro p σ ρ hH hX hA hM0
  have hG := aAG_of hA.1 (fun i e v he hv => (hA.2 i e v he hv).1)
  clear hA
  obtain ⟨v0, v1, v2, v3, v4, rfl, g0, g1, g2, g3, g4⟩ := rA_5 hG
  clear hG
  obtain ⟨x0, rfl, b0, d0⟩ := rG_ref (by decide) g0
  obtain ⟨x1, rfl, b1, d1⟩ := aG_int g1
  dsimp only at b1 d1
  obtain ⟨x2, rfl, b2, d2⟩ := aG_int g2
  dsimp only at b2 d2
  obtain ⟨x3, rfl, b3, d3⟩ := aG_int g3
  dsimp only at b3 d3
  obtain ⟨x4, rfl, b4, d4⟩ := aG_int g4
  dsimp only at b4 d4
  obtain ⟨m1, m2, m3, m4⟩ := hM0
  obtain ⟨M, hM⟩ := rMe_ex hH b0 d0
  have f0 : rB K n p 22 [rR x0] σ := by
    obtain ⟨w, e6, e7⟩ := m4 (353, [0]) (List.mem_of_getElem? (i := 0) rfl)
    obtain rfl : [rR x0] = w := Option.some.inj (show some [rR x0] = some w from e6)
    exact (rF_b (r := 353) (by decide) rfl).mp e7
  obtain ⟨hp, hR⟩ := ro_22.mp f0
  obtain rfl := rMg_u hM hR.1
  have f1 : rB K n p 148 [rR x0, rI x1, rI x3] σ := by
    obtain ⟨w, e6, e7⟩ := m4 (2371, [0, 1, 3]) (List.mem_of_getElem? (i := 1) rfl)
    obtain rfl : [rR x0, rI x1, rI x3] = w := Option.some.inj (show some [rR x0, rI x1, rI x3] = some w from e6)
    exact (rF_b (r := 2371) (by decide) rfl).mp e7
  obtain ⟨M9, h9, f1⟩ := ro_148.mp f1
  obtain rfl := rMg_u hM h9
  clear h9
  clear m1 m2 m3 m4
  have q0 : rB K n p 86 [rI x1, rI x2, rI x4] σ := ro_86.mpr (by
    unfold rLs
    omega)
  exact ⟨p, fun _ => rfl, ⟨(fun q h => by cases h), fun q h => (by cases h), (fun f h => by cases h), (aAllc ⟨_, rfl, (rF_b (r := 1379) (by decide) rfl).mpr q0⟩ (fun f h => by cases h))⟩, [], List.mem_cons_self, fun f h => (by cases h)⟩
theorem rw_rvCJ0 {K : Nat → Nat} {n : Nat} {JX : (Nat → jcell) → Prop} : aGho (rF K n) fa_T K n JX ag_rvCJ0 := by
  refine aGho_of ⟨rfl, rfl⟩ ?_
  intro p σ ρ hH hX hA hM0
  have hG := aAG_of hA.1 (fun i e v he hv => (hA.2 i e v he hv).1)
  clear hA
  obtain ⟨v0, v1, v2, v3, v4, v5, v6, rfl, g0, g1, g2, g3, g4, g5, g6⟩ := rA_7 hG
  clear hG
  obtain ⟨x0, rfl, b0, d0⟩ := aG_int g0
  dsimp only at b0 d0
  obtain ⟨x1, rfl, b1, d1⟩ := aG_int g1
  dsimp only at b1 d1
  obtain ⟨x2, rfl, b2, d2⟩ := aG_int g2
  dsimp only at b2 d2
  obtain ⟨x3, rfl, b3, d3⟩ := aG_int g3
  dsimp only at b3 d3
  obtain ⟨x4, rfl, b4, d4⟩ := aG_int g4
  dsimp only at b4 d4
  obtain ⟨x5, rfl⟩ := aG_lng g5
  obtain ⟨x6, rfl, b6, d6⟩ := aG_int g6
  dsimp only at b6 d6
  obtain ⟨m1, m2, m3, m4⟩ := hM0
  have f0 : rB K n p 74 [rI x0, rI x1, rI x4] σ := by
    obtain ⟨w, e6, e7⟩ := m4 (1187, [0, 1, 4]) (List.mem_of_getElem? (i := 0) rfl)
    obtain rfl : [rI x0, rI x1, rI x4] = w := Option.some.inj (show some [rI x0, rI x1, rI x4] = some w from e6)
    exact (rF_b (r := 1187) (by decide) rfl).mp e7
  have f0 := ro_74.mp f0
  have f1 : rB K n p 86 [rI x0, rI x1, rI x2] σ := by
    obtain ⟨w, e6, e7⟩ := m4 (1379, [0, 1, 2]) (List.mem_of_getElem? (i := 1) rfl)
    obtain rfl : [rI x0, rI x1, rI x2] = w := Option.some.inj (show some [rI x0, rI x1, rI x2] = some w from e6)
    exact (rF_b (r := 1379) (by decide) rfl).mp e7
  have f1 := ro_86.mp f1
  have f2 : rB K n p 83 [rI x0, rL x5] σ := by
    obtain ⟨w, e6, e7⟩ := m4 (1330, [0, 5]) (List.mem_of_getElem? (i := 2) rfl)
    obtain rfl : [rI x0, rL x5] = w := Option.some.inj (show some [rI x0, rL x5] = some w from e6)
    exact (rF_b (r := 1330) (by decide) rfl).mp e7
  have f2 := ro_83.mp f2
  have f3 : rB K n p 164 [rL x5, rI x1] σ := by
    obtain ⟨w, e6, e7⟩ := m4 (2626, [5, 1]) (List.mem_of_getElem? (i := 3) rfl)
    obtain rfl : [rL x5, rI x1] = w := Option.some.inj (show some [rL x5, rI x1] = some w from e6)
    exact (rF_b (r := 2626) (by decide) rfl).mp e7
  have f3 := ro_164.mp f3
  have f4 : rB K n p 82 [rI x1, rI x6] σ := by
    obtain ⟨w, e6, e7⟩ := m4 (1314, [1, 6]) (List.mem_of_getElem? (i := 4) rfl)
    obtain rfl : [rI x1, rI x6] = w := Option.some.inj (show some [rI x1, rI x6] = some w from e6)
    exact (rF_b (r := 1314) (by decide) rfl).mp e7
  have f4 := ro_82.mp f4
  clear m1 m2 m3 m4
  have q0 : rB K n p 75 [rI x0, rI x1, rI x3, rI x4] σ := ro_75.mpr (by
    have hg := (f2 x1.toInt b1 d1).mp f3
    obtain ⟨k1, k2⟩ := f0
    refine ⟨⟨f4.1, f4.2.1⟩, hg.1, ?_, hg.2, ?_, fun hz => ?_⟩
    · rcases f4.2.2 with h9 | h9
      · have := h9.1; omega
      · exact h9.2
    · rcases f1 with h9 | h9
      · exact (by have := h9.1; omega)
      · exact Or.inr ⟨h9.2, by omega, by omega⟩
    · intro m h1 h2 h3
      refine k2 hz m h1 h2 ?_
      rcases h3 with h3 | ⟨h3, h4 | ⟨h4, h5⟩⟩
      · exact Or.inl h3
      · exact Or.inr ⟨h3, Or.inl h4⟩
      · exfalso
        have h6 := h1.1
        unfold rBc at h5
        omega)
  exact ⟨p, fun _ => rfl, ⟨(fun q h => by cases h), fun q h => (by cases h), (fun f h => by cases h), (aAllc ⟨_, rfl, (rF_b (r := 1204) (by decide) rfl).mpr q0⟩ (fun f h => by cases h))⟩, [], List.mem_cons_self, fun f h => (by cases h)⟩
theorem rw_rvCJ1 {K : Nat → Nat} {n : Nat} {JX : (Nat → jcell) → Prop} : aGho (rF K n) fa_T K n JX ag_rvCJ1 := by
  refine aGho_of ⟨rfl, rfl⟩ ?_
  intro p σ ρ hH hX hA hM0
  have hG := aAG_of hA.1 (fun i e v he hv => (hA.2 i e v he hv).1)
  clear hA
  obtain ⟨v0, v1, v2, v3, v4, v5, v6, rfl, g0, g1, g2, g3, g4, g5, g6⟩ := rA_7 hG
  clear hG
  obtain ⟨x0, rfl, b0, d0⟩ := aG_int g0
  dsimp only at b0 d0
  obtain ⟨x1, rfl, b1, d1⟩ := aG_int g1
  dsimp only at b1 d1
  obtain ⟨x2, rfl, b2, d2⟩ := aG_int g2
  dsimp only at b2 d2
  obtain ⟨x3, rfl, b3, d3⟩ := aG_int g3
  dsimp only at b3 d3
  obtain ⟨x4, rfl, b4, d4⟩ := aG_int g4
  dsimp only at b4 d4
  obtain ⟨x5, rfl⟩ := aG_lng g5
  obtain ⟨x6, rfl, b6, d6⟩ := aG_int g6
  dsimp only at b6 d6
  obtain ⟨m1, m2, m3, m4⟩ := hM0
  have f0 : rB K n p 74 [rI x0, rI x1, rI x4] σ := by
    obtain ⟨w, e6, e7⟩ := m4 (1187, [0, 1, 4]) (List.mem_of_getElem? (i := 0) rfl)
    obtain rfl : [rI x0, rI x1, rI x4] = w := Option.some.inj (show some [rI x0, rI x1, rI x4] = some w from e6)
    exact (rF_b (r := 1187) (by decide) rfl).mp e7
  have f0 := ro_74.mp f0
  have f1 : rB K n p 86 [rI x0, rI x1, rI x2] σ := by
    obtain ⟨w, e6, e7⟩ := m4 (1379, [0, 1, 2]) (List.mem_of_getElem? (i := 1) rfl)
    obtain rfl : [rI x0, rI x1, rI x2] = w := Option.some.inj (show some [rI x0, rI x1, rI x2] = some w from e6)
    exact (rF_b (r := 1379) (by decide) rfl).mp e7
  have f1 := ro_86.mp f1
  have f2 : rB K n p 83 [rI x0, rL x5] σ := by
    obtain ⟨w, e6, e7⟩ := m4 (1330, [0, 5]) (List.mem_of_getElem? (i := 2) rfl)
    obtain rfl : [rI x0, rL x5] = w := Option.some.inj (show some [rI x0, rL x5] = some w from e6)
    exact (rF_b (r := 1330) (by decide) rfl).mp e7
  have f2 := ro_83.mp f2
  have f3 : rB K n p 164 [rL x5, rI x1] σ := by
    obtain ⟨w, e6, e7⟩ := m4 (2626, [5, 1]) (List.mem_of_getElem? (i := 3) rfl)
    obtain rfl : [rL x5, rI x1] = w := Option.some.inj (show some [rL x5, rI x1] = some w from e6)
    exact (rF_b (r := 2626) (by decide) rfl).mp e7
  have f3 := ro_164.mp f3
  have f4 : rB K n p 82 [rI x1, rI x6] σ := by
    obtain ⟨w, e6, e7⟩ := m4 (1314, [1, 6]) (List.mem_of_getElem? (i := 4) rfl)
    obtain rfl : [rI x1, rI x6] = w := Option.some.inj (show some [rI x1, rI x6] = some w from e6)
    exact (rF_b (r := 1314) (by decide) rfl).mp e7
  have f4 := ro_82.mp f4
  clear m1 m2 m3 m4
  have q0 : rB K n p 75 [rI x0, rI x1, rI x3, rI x4] σ := ro_75.mpr (by
    have hg := (f2 x1.toInt b1 d1).mp f3
    obtain ⟨k1, k2⟩ := f0
    refine ⟨⟨f4.1, f4.2.1⟩, hg.1, ?_, hg.2, ?_, fun hz => ?_⟩
    · rcases f4.2.2 with h9 | h9
      · have := h9.1; omega
      · exact h9.2
    · rcases f1 with h9 | h9
      · exact Or.inl ⟨h9.2, by omega⟩
      · have := h9.1; omega
    · intro m h1 h2 h3
      refine k2 hz m h1 h2 ?_
      rcases h3 with h3 | ⟨h3, h4 | ⟨h4, h5⟩⟩
      · exact Or.inl h3
      · exact Or.inr ⟨h3, Or.inl h4⟩
      · exfalso
        rcases f1 with h9 | h9
        · obtain ⟨-, -, -, -, -, h6⟩ := h1
          have h7 := h9.2
          unfold rLs at h7
          rw [h3, h4] at h6
          omega
        · have := h9.1; omega)
  exact ⟨p, fun _ => rfl, ⟨(fun q h => by cases h), fun q h => (by cases h), (fun f h => by cases h), (aAllc ⟨_, rfl, (rF_b (r := 1204) (by decide) rfl).mpr q0⟩ (fun f h => by cases h))⟩, [], List.mem_cons_self, fun f h => (by cases h)⟩
theorem rw_rvCL0 {K : Nat → Nat} {n : Nat} {JX : (Nat → jcell) → Prop} : aGho (rF K n) fa_T K n JX ag_rvCL0 := by
  refine aGho_of ⟨rfl, rfl⟩ ?_
  intro p σ ρ hH hX hA hM0
  have hG := aAG_of hA.1 (fun i e v he hv => (hA.2 i e v he hv).1)
  clear hA
  obtain ⟨v0, v1, v2, v3, v4, v5, rfl, g0, g1, g2, g3, g4, g5⟩ := rA_6 hG
  clear hG
  obtain ⟨x0, rfl, b0, d0⟩ := aG_int g0
  dsimp only at b0 d0
  obtain ⟨x1, rfl, b1, d1⟩ := aG_int g1
  dsimp only at b1 d1
  obtain ⟨x2, rfl, b2, d2⟩ := aG_int g2
  dsimp only at b2 d2
  obtain ⟨x3, rfl, b3, d3⟩ := aG_int g3
  dsimp only at b3 d3
  obtain ⟨x4, rfl, b4, d4⟩ := aG_int g4
  dsimp only at b4 d4
  obtain ⟨x5, rfl, b5, d5⟩ := aG_int g5
  dsimp only at b5 d5
  obtain ⟨m1, m2, m3, m4⟩ := hM0
  have l0 : 0 ≤ (1 * x5.toInt + (-1 * x0.toInt + (-64 * x1.toInt + (-4096 * x3.toInt + 0)))) + 0 := by
    obtain ⟨z, e6, e7⟩ := m3 ([(5, 1), (0, -1), (1, -64), (3, -4096)], 0) (List.mem_of_getElem? (i := 0) rfl)
    obtain rfl : (1 * x5.toInt + (-1 * x0.toInt + (-64 * x1.toInt + (-4096 * x3.toInt + 0)))) = z := Option.some.inj (show some (1 * x5.toInt + (-1 * x0.toInt + (-64 * x1.toInt + (-4096 * x3.toInt + 0)))) = some z from e6)
    exact e7
  have l1 : 0 ≤ (-1 * x5.toInt + (1 * x0.toInt + (64 * x1.toInt + (4096 * x3.toInt + 0)))) + 0 := by
    obtain ⟨z, e6, e7⟩ := m3 ([(5, -1), (0, 1), (1, 64), (3, 4096)], 0) (List.mem_of_getElem? (i := 1) rfl)
    obtain rfl : (-1 * x5.toInt + (1 * x0.toInt + (64 * x1.toInt + (4096 * x3.toInt + 0)))) = z := Option.some.inj (show some (-1 * x5.toInt + (1 * x0.toInt + (64 * x1.toInt + (4096 * x3.toInt + 0)))) = some z from e6)
    exact e7
  have f0 : rB K n p 75 [rI x0, rI x1, rI x3, rI x4] σ := by
    obtain ⟨w, e6, e7⟩ := m4 (1204, [0, 1, 3, 4]) (List.mem_of_getElem? (i := 0) rfl)
    obtain rfl : [rI x0, rI x1, rI x3, rI x4] = w := Option.some.inj (show some [rI x0, rI x1, rI x3, rI x4] = some w from e6)
    exact (rF_b (r := 1204) (by decide) rfl).mp e7
  have f0 := ro_75.mp f0
  have f1 : rB K n p 86 [rI x0, rI x1, rI x2] σ := by
    obtain ⟨w, e6, e7⟩ := m4 (1379, [0, 1, 2]) (List.mem_of_getElem? (i := 1) rfl)
    obtain rfl : [rI x0, rI x1, rI x2] = w := Option.some.inj (show some [rI x0, rI x1, rI x2] = some w from e6)
    exact (rF_b (r := 1379) (by decide) rfl).mp e7
  have f1 := ro_86.mp f1
  clear m1 m2 m3 m4
  have r0 : 0 ≤ (-1 * x4.toInt + 0) + 2047 := by
    obtain ⟨-, k1, k2, k3, k4, -⟩ := f0
    have hb := rSm_b (k := p.1.1 x0.toInt % 8) (s := x0.toInt) (t := x1.toInt.toNat) (by omega) (by omega) (by omega) (by omega) (by omega)
    omega
  have q0 : rB K n p 25 [rI x5] σ := ro_25.mpr (by
    obtain ⟨e1, e2, e3⟩ := rMv (m := x5.toInt) (f := x0.toInt) (t := x1.toInt) (b := x3.toInt) b0 d0 b1 d1 (by omega)
    obtain ⟨-, k1, k2, k3, k4, -⟩ := f0
    refine ⟨b5, d5, ?_, ?_, ?_, ?_⟩
    · rw [e1]; exact k1
    · rw [e2]; exact k2
    · rw [e1, e2]; exact k3
    · rw [e1, e2, e3]
      unfold rLs at f1
      omega)
  exact ⟨p, fun _ => rfl, ⟨(fun q h => by cases h), fun q h => (by cases h), (aAllc ⟨_, rfl, r0⟩ (fun f h => by cases h)), (aAllc ⟨_, rfl, (rF_b (r := 401) (by decide) rfl).mpr q0⟩ (fun f h => by cases h))⟩, [], List.mem_cons_self, fun f h => (by cases h)⟩
theorem rw_rvCL1 {K : Nat → Nat} {n : Nat} {JX : (Nat → jcell) → Prop} : aGho (rF K n) fa_T K n JX ag_rvCL1 := by
  refine aGho_of ⟨rfl, rfl⟩ ?_
  intro p σ ρ hH hX hA hM0
  have hG := aAG_of hA.1 (fun i e v he hv => (hA.2 i e v he hv).1)
  clear hA
  obtain ⟨v0, v1, v2, v3, v4, v5, rfl, g0, g1, g2, g3, g4, g5⟩ := rA_6 hG
  clear hG
  obtain ⟨x0, rfl, b0, d0⟩ := aG_int g0
  dsimp only at b0 d0
  obtain ⟨x1, rfl, b1, d1⟩ := aG_int g1
  dsimp only at b1 d1
  obtain ⟨x2, rfl, b2, d2⟩ := aG_int g2
  dsimp only at b2 d2
  obtain ⟨x3, rfl, b3, d3⟩ := aG_int g3
  dsimp only at b3 d3
  obtain ⟨x4, rfl, b4, d4⟩ := aG_int g4
  dsimp only at b4 d4
  obtain ⟨x5, rfl, b5, d5⟩ := aG_int g5
  dsimp only at b5 d5
  obtain ⟨m1, m2, m3, m4⟩ := hM0
  have l0 : 0 ≤ (1 * x5.toInt + (-1 * x0.toInt + (-64 * x1.toInt + (-4096 * x3.toInt + 0)))) + 0 := by
    obtain ⟨z, e6, e7⟩ := m3 ([(5, 1), (0, -1), (1, -64), (3, -4096)], 0) (List.mem_of_getElem? (i := 0) rfl)
    obtain rfl : (1 * x5.toInt + (-1 * x0.toInt + (-64 * x1.toInt + (-4096 * x3.toInt + 0)))) = z := Option.some.inj (show some (1 * x5.toInt + (-1 * x0.toInt + (-64 * x1.toInt + (-4096 * x3.toInt + 0)))) = some z from e6)
    exact e7
  have l1 : 0 ≤ (-1 * x5.toInt + (1 * x0.toInt + (64 * x1.toInt + (4096 * x3.toInt + 0)))) + 0 := by
    obtain ⟨z, e6, e7⟩ := m3 ([(5, -1), (0, 1), (1, 64), (3, 4096)], 0) (List.mem_of_getElem? (i := 1) rfl)
    obtain rfl : (-1 * x5.toInt + (1 * x0.toInt + (64 * x1.toInt + (4096 * x3.toInt + 0)))) = z := Option.some.inj (show some (-1 * x5.toInt + (1 * x0.toInt + (64 * x1.toInt + (4096 * x3.toInt + 0)))) = some z from e6)
    exact e7
  have f0 : rB K n p 75 [rI x0, rI x1, rI x3, rI x4] σ := by
    obtain ⟨w, e6, e7⟩ := m4 (1204, [0, 1, 3, 4]) (List.mem_of_getElem? (i := 0) rfl)
    obtain rfl : [rI x0, rI x1, rI x3, rI x4] = w := Option.some.inj (show some [rI x0, rI x1, rI x3, rI x4] = some w from e6)
    exact (rF_b (r := 1204) (by decide) rfl).mp e7
  have f0 := ro_75.mp f0
  have f1 : rB K n p 86 [rI x0, rI x1, rI x2] σ := by
    obtain ⟨w, e6, e7⟩ := m4 (1379, [0, 1, 2]) (List.mem_of_getElem? (i := 1) rfl)
    obtain rfl : [rI x0, rI x1, rI x2] = w := Option.some.inj (show some [rI x0, rI x1, rI x2] = some w from e6)
    exact (rF_b (r := 1379) (by decide) rfl).mp e7
  have f1 := ro_86.mp f1
  clear m1 m2 m3 m4
  have r0 : 0 ≤ (-1 * x4.toInt + 0) + 2047 := by
    obtain ⟨-, k1, k2, k3, k4, -⟩ := f0
    have hb := rSm_b (k := p.1.1 x0.toInt % 8) (s := x0.toInt) (t := x1.toInt.toNat) (by omega) (by omega) (by omega) (by omega) (by omega)
    omega
  have q0 : rB K n p 25 [rI x5] σ := ro_25.mpr (by
    obtain ⟨e1, e2, e3⟩ := rMv (m := x5.toInt) (f := x0.toInt) (t := x1.toInt) (b := x3.toInt) b0 d0 b1 d1 (by omega)
    obtain ⟨-, k1, k2, k3, k4, -⟩ := f0
    refine ⟨b5, d5, ?_, ?_, ?_, ?_⟩
    · rw [e1]; exact k1
    · rw [e2]; exact k2
    · rw [e1, e2]; exact k3
    · rw [e1, e2, e3]
      unfold rLs at f1
      omega)
  exact ⟨p, fun _ => rfl, ⟨(fun q h => by cases h), fun q h => (by cases h), (aAllc ⟨_, rfl, r0⟩ (fun f h => by cases h)), (aAllc ⟨_, rfl, (rF_b (r := 401) (by decide) rfl).mpr q0⟩ (fun f h => by cases h))⟩, [], List.mem_cons_self, fun f h => (by cases h)⟩
theorem rw_rvLGy {K : Nat → Nat} {n : Nat} {JX : (Nat → jcell) → Prop} : aGho (rF K n) fa_T K n JX ag_rvLGy := by
  refine aGho_of ⟨rfl, rfl⟩ ?_
  intro p σ ρ hH hX hA hM0
  have hG := aAG_of hA.1 (fun i e v he hv => (hA.2 i e v he hv).1)
  clear hA
  obtain ⟨v0, v1, rfl, g0, g1⟩ := rA_2 hG
  clear hG
  obtain ⟨x0, rfl, b0, d0⟩ := aG_int g0
  dsimp only at b0 d0
  obtain ⟨x1, rfl, b1, d1⟩ := aG_int g1
  dsimp only at b1 d1
  obtain ⟨m1, m2, m3, m4⟩ := hM0
  have f0 : rB K n p 25 [rI x0] σ := by
    obtain ⟨w, e6, e7⟩ := m4 (401, [0]) (List.mem_of_getElem? (i := 0) rfl)
    obtain rfl : [rI x0] = w := Option.some.inj (show some [rI x0] = some w from e6)
    exact (rF_b (r := 401) (by decide) rfl).mp e7
  have f0 := ro_25.mp f0
  have f1 : rB K n p 29 [rI x0, rI x1] σ := by
    obtain ⟨w, e6, e7⟩ := m4 (466, [0, 1]) (List.mem_of_getElem? (i := 1) rfl)
    obtain rfl : [rI x0, rI x1] = w := Option.some.inj (show some [rI x0, rI x1] = some w from e6)
    exact (rF_b (r := 466) (by decide) rfl).mp e7
  have f1 := ro_29.mp f1
  clear m1 m2 m3 m4
  have q0 : rB K n p 31 [rI x0] σ := ro_31.mpr (by
    refine ⟨f0, ?_⟩
    rcases f1 with h9 | h9
    · exact h9.2
    · have := h9.1; omega)
  exact ⟨p, fun _ => rfl, ⟨(fun q h => by cases h), fun q h => (by cases h), (fun f h => by cases h), (aAllc ⟨_, rfl, (rF_b (r := 497) (by decide) rfl).mpr q0⟩ (fun f h => by cases h))⟩, [], List.mem_cons_self, fun f h => (by cases h)⟩
theorem rw_rvLFs {K : Nat → Nat} {n : Nat} {JX : (Nat → jcell) → Prop} : aGho (rF K n) fa_T K n JX ag_rvLFs := by
  refine aGho_of ⟨rfl, rfl⟩ ?_
  intro p σ ρ hH hX hA hM0
  have hG := aAG_of hA.1 (fun i e v he hv => (hA.2 i e v he hv).1)
  clear hA
  obtain ⟨v0, v1, v2, v3, v4, v5, rfl, g0, g1, g2, g3, g4, g5⟩ := rA_6 hG
  clear hG
  obtain ⟨x0, rfl, b0, d0⟩ := rG_ref (by decide) g0
  obtain ⟨x1, rfl, b1, d1⟩ := rG_ref (by decide) g1
  obtain ⟨x2, rfl, b2, d2⟩ := aG_int g2
  dsimp only at b2 d2
  obtain ⟨x3, rfl, b3, d3⟩ := aG_int g3
  dsimp only at b3 d3
  obtain ⟨x4, rfl, b4, d4⟩ := aG_int g4
  dsimp only at b4 d4
  obtain ⟨x5, rfl, b5, d5⟩ := aG_int g5
  dsimp only at b5 d5
  obtain ⟨m1, m2, m3, m4⟩ := hM0
  obtain ⟨M, hM⟩ := rMe_ex hH b0 d0
  obtain ⟨a0, c0, fs0, w0, e1, s0, t0, e4⟩ := m1 (0, 21, 1) (List.mem_of_getElem? (i := 0) rfl)
  obtain rfl : x0 = a0 := Sum.inl.inj (Option.some.inj (Sum.inr.inj (Sum.inr.inj (Option.some.inj (show some (rR x0) = some _ from e1)))))
  obtain rfl : rR x1 = w0 := Option.some.inj (show some (rR x1) = some w0 from e4)
  clear e1 e4
  have l0 : 0 ≤ (1 * x4.toInt + (-2048 * x2.toInt + (-1 * x3.toInt + 0))) + 0 := by
    obtain ⟨z, e6, e7⟩ := m3 ([(4, 1), (2, -2048), (3, -1)], 0) (List.mem_of_getElem? (i := 0) rfl)
    obtain rfl : (1 * x4.toInt + (-2048 * x2.toInt + (-1 * x3.toInt + 0))) = z := Option.some.inj (show some (1 * x4.toInt + (-2048 * x2.toInt + (-1 * x3.toInt + 0))) = some z from e6)
    exact e7
  have l1 : 0 ≤ (-1 * x4.toInt + (2048 * x2.toInt + (1 * x3.toInt + 0))) + 0 := by
    obtain ⟨z, e6, e7⟩ := m3 ([(4, -1), (2, 2048), (3, 1)], 0) (List.mem_of_getElem? (i := 1) rfl)
    obtain rfl : (-1 * x4.toInt + (2048 * x2.toInt + (1 * x3.toInt + 0))) = z := Option.some.inj (show some (-1 * x4.toInt + (2048 * x2.toInt + (1 * x3.toInt + 0))) = some z from e6)
    exact e7
  have f0 : rB K n p 76 [rR x0, rI x2, rI x3] σ := by
    obtain ⟨w, e6, e7⟩ := m4 (1219, [0, 2, 3]) (List.mem_of_getElem? (i := 0) rfl)
    obtain rfl : [rR x0, rI x2, rI x3] = w := Option.some.inj (show some [rR x0, rI x2, rI x3] = some w from e6)
    exact (rF_b (r := 1219) (by decide) rfl).mp e7
  have f0 := ro_76.mp f0
  have f1 : rB K n p 31 [rI x5] σ := by
    obtain ⟨w, e6, e7⟩ := m4 (497, [5]) (List.mem_of_getElem? (i := 1) rfl)
    obtain rfl : [rI x5] = w := Option.some.inj (show some [rI x5] = some w from e6)
    exact (rF_b (r := 497) (by decide) rfl).mp e7
  have f1 := ro_31.mp f1
  clear m1 m2 m3 m4
  have q0 : rB K n p 77 [rR x0, rI x2, rI x3] (jup σ x1 (jsto (σ x1) x4.toNatClampNeg x5)) := ro_77_3.mpr (by
    obtain ⟨hp, k0, g, h, k⟩ := f0
    refine ⟨hp, by omega, _, rRo_up h s0 t0, fun _ j h1 h2 => ?_⟩
    have hi : x4.toNatClampNeg = x4.toInt.toNat := rfl
    unfold upd
    by_cases cj : j = x3.toInt
    · rw [if_pos (by rw [hi]; omega)]
      exact f1
    · rw [if_neg (by rw [hi]; omega)]
      exact k (by omega) j h1 (by omega))
  exact ⟨p, fun _ => rfl, ⟨(fun q h => by cases h), fun q h => (by cases h), (fun f h => by cases h), (aAllc ⟨_, rfl, rF_p (r := 1235) (by decide) (by decide) q0⟩ (fun f h => by cases h))⟩, [], List.mem_cons_self, fun f h => (by cases h)⟩
theorem rw_rvLFn {K : Nat → Nat} {n : Nat} {JX : (Nat → jcell) → Prop} : aGho (rF K n) fa_T K n JX ag_rvLFn := by
  refine aGho_of ⟨rfl, rfl⟩ ?_
  intro p σ ρ hH hX hA hM0
  have hG := aAG_of hA.1 (fun i e v he hv => (hA.2 i e v he hv).1)
  clear hA
  obtain ⟨v0, v1, v2, v3, rfl, g0, g1, g2, g3⟩ := rA_4 hG
  clear hG
  obtain ⟨x0, rfl, b0, d0⟩ := rG_ref (by decide) g0
  obtain ⟨x1, rfl, b1, d1⟩ := aG_int g1
  dsimp only at b1 d1
  obtain ⟨x2, rfl, b2, d2⟩ := aG_int g2
  dsimp only at b2 d2
  obtain ⟨x3, rfl, b3, d3⟩ := aG_int g3
  dsimp only at b3 d3
  obtain ⟨m1, m2, m3, m4⟩ := hM0
  obtain ⟨M, hM⟩ := rMe_ex hH b0 d0
  have l0 : 0 ≤ (1 * x3.toInt + (-1 * x2.toInt + 0)) + -1 := by
    obtain ⟨z, e6, e7⟩ := m3 ([(3, 1), (2, -1)], -1) (List.mem_of_getElem? (i := 0) rfl)
    obtain rfl : (1 * x3.toInt + (-1 * x2.toInt + 0)) = z := Option.some.inj (show some (1 * x3.toInt + (-1 * x2.toInt + 0)) = some z from e6)
    exact e7
  have l1 : 0 ≤ (-1 * x3.toInt + (1 * x2.toInt + 0)) + 1 := by
    obtain ⟨z, e6, e7⟩ := m3 ([(3, -1), (2, 1)], 1) (List.mem_of_getElem? (i := 1) rfl)
    obtain rfl : (-1 * x3.toInt + (1 * x2.toInt + 0)) = z := Option.some.inj (show some (-1 * x3.toInt + (1 * x2.toInt + 0)) = some z from e6)
    exact e7
  have f0 : rB K n p 77 [rR x0, rI x1, rI x2] σ := by
    obtain ⟨w, e6, e7⟩ := m4 (1235, [0, 1, 2]) (List.mem_of_getElem? (i := 0) rfl)
    obtain rfl : [rR x0, rI x1, rI x2] = w := Option.some.inj (show some [rR x0, rI x1, rI x2] = some w from e6)
    exact (rF_b (r := 1235) (by decide) rfl).mp e7
  have f0 := ro_77_3.mp f0
  clear m1 m2 m3 m4
  have q0 : rB K n p 76 [rR x0, rI x1, rI x3] σ := ro_76.mpr (by
    rw [show x3.toInt = x2.toInt + 1 by omega]
    exact ⟨f0.1, by omega, f0.2.2⟩)
  exact ⟨p, fun _ => rfl, ⟨(fun q h => by cases h), fun q h => (by cases h), (fun f h => by cases h), (aAllc ⟨_, rfl, (rF_b (r := 1219) (by decide) rfl).mpr q0⟩ (fun f h => by cases h))⟩, [], List.mem_cons_self, fun f h => (by cases h)⟩
theorem rw_rvJy0 {K : Nat → Nat} {n : Nat} {JX : (Nat → jcell) → Prop} : aGho (rF K n) fa_T K n JX ag_rvJy0 := by
  refine aGho_of ⟨rfl, rfl⟩ ?_
  intro p σ ρ hH hX hA hM0
  have hG := aAG_of hA.1 (fun i e v he hv => (hA.2 i e v he hv).1)
  clear hA
  obtain ⟨v0, v1, v2, v3, v4, v5, rfl, g0, g1, g2, g3, g4, g5⟩ := rA_6 hG
  clear hG
  obtain ⟨x0, rfl, b0, d0⟩ := aG_int g0
  dsimp only at b0 d0
  obtain ⟨x1, rfl, b1, d1⟩ := aG_int g1
  dsimp only at b1 d1
  obtain ⟨x2, rfl, b2, d2⟩ := aG_int g2
  dsimp only at b2 d2
  obtain ⟨x3, rfl, b3, d3⟩ := aG_int g3
  dsimp only at b3 d3
  obtain ⟨x4, rfl, b4, d4⟩ := aG_int g4
  dsimp only at b4 d4
  obtain ⟨x5, rfl, b5, d5⟩ := aG_int g5
  dsimp only at b5 d5
  obtain ⟨m1, m2, m3, m4⟩ := hM0
  have l0 : 0 ≤ (1 * x5.toInt + (-1 * x4.toInt + 0)) + -1 := by
    obtain ⟨z, e6, e7⟩ := m3 ([(5, 1), (4, -1)], -1) (List.mem_of_getElem? (i := 0) rfl)
    obtain rfl : (1 * x5.toInt + (-1 * x4.toInt + 0)) = z := Option.some.inj (show some (1 * x5.toInt + (-1 * x4.toInt + 0)) = some z from e6)
    exact e7
  have l1 : 0 ≤ (-1 * x5.toInt + (1 * x4.toInt + 0)) + 1 := by
    obtain ⟨z, e6, e7⟩ := m3 ([(5, -1), (4, 1)], 1) (List.mem_of_getElem? (i := 1) rfl)
    obtain rfl : (-1 * x5.toInt + (1 * x4.toInt + 0)) = z := Option.some.inj (show some (-1 * x5.toInt + (1 * x4.toInt + 0)) = some z from e6)
    exact e7
  have f0 : rB K n p 75 [rI x0, rI x1, rI x3, rI x4] σ := by
    obtain ⟨w, e6, e7⟩ := m4 (1204, [0, 1, 3, 4]) (List.mem_of_getElem? (i := 0) rfl)
    obtain rfl : [rI x0, rI x1, rI x3, rI x4] = w := Option.some.inj (show some [rI x0, rI x1, rI x3, rI x4] = some w from e6)
    exact (rF_b (r := 1204) (by decide) rfl).mp e7
  have f0 := ro_75.mp f0
  have f1 : rB K n p 86 [rI x0, rI x1, rI x2] σ := by
    obtain ⟨w, e6, e7⟩ := m4 (1379, [0, 1, 2]) (List.mem_of_getElem? (i := 1) rfl)
    obtain rfl : [rI x0, rI x1, rI x2] = w := Option.some.inj (show some [rI x0, rI x1, rI x2] = some w from e6)
    exact (rF_b (r := 1379) (by decide) rfl).mp e7
  have f1 := ro_86.mp f1
  clear m1 m2 m3 m4
  have q0 : rB K n p 87 [rI x0, rI x1, rI x3, rI x5] σ := ro_87.mpr (by
    obtain ⟨k0, k1, k2, k3, k4, -⟩ := f0
    exact ⟨k0, k1, k2, k3, k4.imp (fun h => ⟨h.1, by have := h.2; omega⟩) (fun h => ⟨h.1, by have := h.2; omega, by have := h.2; omega⟩), fun h => by omega⟩)
  exact ⟨p, fun _ => rfl, ⟨(fun q h => by cases h), fun q h => (by cases h), (fun f h => by cases h), (aAllc ⟨_, rfl, (rF_b (r := 1396) (by decide) rfl).mpr q0⟩ (fun f h => by cases h))⟩, [], List.mem_cons_self, fun f h => (by cases h)⟩
theorem rw_rvJy1 {K : Nat → Nat} {n : Nat} {JX : (Nat → jcell) → Prop} : aGho (rF K n) fa_T K n JX ag_rvJy1 := by
  refine aGho_of ⟨rfl, rfl⟩ ?_
  intro p σ ρ hH hX hA hM0
  have hG := aAG_of hA.1 (fun i e v he hv => (hA.2 i e v he hv).1)
  clear hA
  obtain ⟨v0, v1, v2, v3, v4, v5, rfl, g0, g1, g2, g3, g4, g5⟩ := rA_6 hG
  clear hG
  obtain ⟨x0, rfl, b0, d0⟩ := aG_int g0
  dsimp only at b0 d0
  obtain ⟨x1, rfl, b1, d1⟩ := aG_int g1
  dsimp only at b1 d1
  obtain ⟨x2, rfl, b2, d2⟩ := aG_int g2
  dsimp only at b2 d2
  obtain ⟨x3, rfl, b3, d3⟩ := aG_int g3
  dsimp only at b3 d3
  obtain ⟨x4, rfl, b4, d4⟩ := aG_int g4
  dsimp only at b4 d4
  obtain ⟨x5, rfl, b5, d5⟩ := aG_int g5
  dsimp only at b5 d5
  obtain ⟨m1, m2, m3, m4⟩ := hM0
  have l0 : 0 ≤ (1 * x5.toInt + (-1 * x4.toInt + 0)) + -1 := by
    obtain ⟨z, e6, e7⟩ := m3 ([(5, 1), (4, -1)], -1) (List.mem_of_getElem? (i := 0) rfl)
    obtain rfl : (1 * x5.toInt + (-1 * x4.toInt + 0)) = z := Option.some.inj (show some (1 * x5.toInt + (-1 * x4.toInt + 0)) = some z from e6)
    exact e7
  have l1 : 0 ≤ (-1 * x5.toInt + (1 * x4.toInt + 0)) + 1 := by
    obtain ⟨z, e6, e7⟩ := m3 ([(5, -1), (4, 1)], 1) (List.mem_of_getElem? (i := 1) rfl)
    obtain rfl : (-1 * x5.toInt + (1 * x4.toInt + 0)) = z := Option.some.inj (show some (-1 * x5.toInt + (1 * x4.toInt + 0)) = some z from e6)
    exact e7
  have f0 : rB K n p 75 [rI x0, rI x1, rI x3, rI x4] σ := by
    obtain ⟨w, e6, e7⟩ := m4 (1204, [0, 1, 3, 4]) (List.mem_of_getElem? (i := 0) rfl)
    obtain rfl : [rI x0, rI x1, rI x3, rI x4] = w := Option.some.inj (show some [rI x0, rI x1, rI x3, rI x4] = some w from e6)
    exact (rF_b (r := 1204) (by decide) rfl).mp e7
  have f0 := ro_75.mp f0
  have f1 : rB K n p 86 [rI x0, rI x1, rI x2] σ := by
    obtain ⟨w, e6, e7⟩ := m4 (1379, [0, 1, 2]) (List.mem_of_getElem? (i := 1) rfl)
    obtain rfl : [rI x0, rI x1, rI x2] = w := Option.some.inj (show some [rI x0, rI x1, rI x2] = some w from e6)
    exact (rF_b (r := 1379) (by decide) rfl).mp e7
  have f1 := ro_86.mp f1
  clear m1 m2 m3 m4
  have q0 : rB K n p 87 [rI x0, rI x1, rI x3, rI x5] σ := ro_87.mpr (by
    obtain ⟨k0, k1, k2, k3, k4, -⟩ := f0
    exact ⟨k0, k1, k2, k3, k4.imp (fun h => ⟨h.1, by have := h.2; omega⟩) (fun h => ⟨h.1, by have := h.2; omega, by have := h.2; omega⟩), fun h => by omega⟩)
  exact ⟨p, fun _ => rfl, ⟨(fun q h => by cases h), fun q h => (by cases h), (fun f h => by cases h), (aAllc ⟨_, rfl, (rF_b (r := 1396) (by decide) rfl).mpr q0⟩ (fun f h => by cases h))⟩, [], List.mem_cons_self, fun f h => (by cases h)⟩
theorem rw_rvJn0 {K : Nat → Nat} {n : Nat} {JX : (Nat → jcell) → Prop} : aGho (rF K n) fa_T K n JX ag_rvJn0 := by
  refine aGho_of ⟨rfl, rfl⟩ ?_
  intro p σ ρ hH hX hA hM0
  have hG := aAG_of hA.1 (fun i e v he hv => (hA.2 i e v he hv).1)
  clear hA
  obtain ⟨v0, v1, v2, v3, v4, v5, v6, rfl, g0, g1, g2, g3, g4, g5, g6⟩ := rA_7 hG
  clear hG
  obtain ⟨x0, rfl, b0, d0⟩ := aG_int g0
  dsimp only at b0 d0
  obtain ⟨x1, rfl, b1, d1⟩ := aG_int g1
  dsimp only at b1 d1
  obtain ⟨x2, rfl, b2, d2⟩ := aG_int g2
  dsimp only at b2 d2
  obtain ⟨x3, rfl, b3, d3⟩ := aG_int g3
  dsimp only at b3 d3
  obtain ⟨x4, rfl, b4, d4⟩ := aG_int g4
  dsimp only at b4 d4
  obtain ⟨x5, rfl, b5, d5⟩ := aG_int g5
  dsimp only at b5 d5
  obtain ⟨x6, rfl, b6, d6⟩ := aG_int g6
  dsimp only at b6 d6
  obtain ⟨m1, m2, m3, m4⟩ := hM0
  have l0 : 0 ≤ (1 * x5.toInt + (-1 * x0.toInt + (-64 * x1.toInt + (-4096 * x3.toInt + 0)))) + 0 := by
    obtain ⟨z, e6, e7⟩ := m3 ([(5, 1), (0, -1), (1, -64), (3, -4096)], 0) (List.mem_of_getElem? (i := 0) rfl)
    obtain rfl : (1 * x5.toInt + (-1 * x0.toInt + (-64 * x1.toInt + (-4096 * x3.toInt + 0)))) = z := Option.some.inj (show some (1 * x5.toInt + (-1 * x0.toInt + (-64 * x1.toInt + (-4096 * x3.toInt + 0)))) = some z from e6)
    exact e7
  have l1 : 0 ≤ (-1 * x5.toInt + (1 * x0.toInt + (64 * x1.toInt + (4096 * x3.toInt + 0)))) + 0 := by
    obtain ⟨z, e6, e7⟩ := m3 ([(5, -1), (0, 1), (1, 64), (3, 4096)], 0) (List.mem_of_getElem? (i := 1) rfl)
    obtain rfl : (-1 * x5.toInt + (1 * x0.toInt + (64 * x1.toInt + (4096 * x3.toInt + 0)))) = z := Option.some.inj (show some (-1 * x5.toInt + (1 * x0.toInt + (64 * x1.toInt + (4096 * x3.toInt + 0)))) = some z from e6)
    exact e7
  have f0 : rB K n p 75 [rI x0, rI x1, rI x3, rI x4] σ := by
    obtain ⟨w, e6, e7⟩ := m4 (1204, [0, 1, 3, 4]) (List.mem_of_getElem? (i := 0) rfl)
    obtain rfl : [rI x0, rI x1, rI x3, rI x4] = w := Option.some.inj (show some [rI x0, rI x1, rI x3, rI x4] = some w from e6)
    exact (rF_b (r := 1204) (by decide) rfl).mp e7
  have f0 := ro_75.mp f0
  have f1 : rB K n p 86 [rI x0, rI x1, rI x2] σ := by
    obtain ⟨w, e6, e7⟩ := m4 (1379, [0, 1, 2]) (List.mem_of_getElem? (i := 1) rfl)
    obtain rfl : [rI x0, rI x1, rI x2] = w := Option.some.inj (show some [rI x0, rI x1, rI x2] = some w from e6)
    exact (rF_b (r := 1379) (by decide) rfl).mp e7
  have f1 := ro_86.mp f1
  have f2 : rB K n p 25 [rI x5] σ := by
    obtain ⟨w, e6, e7⟩ := m4 (401, [5]) (List.mem_of_getElem? (i := 2) rfl)
    obtain rfl : [rI x5] = w := Option.some.inj (show some [rI x5] = some w from e6)
    exact (rF_b (r := 401) (by decide) rfl).mp e7
  have f2 := ro_25.mp f2
  have f3 : rB K n p 29 [rI x5, rI x6] σ := by
    obtain ⟨w, e6, e7⟩ := m4 (466, [5, 6]) (List.mem_of_getElem? (i := 3) rfl)
    obtain rfl : [rI x5, rI x6] = w := Option.some.inj (show some [rI x5, rI x6] = some w from e6)
    exact (rF_b (r := 466) (by decide) rfl).mp e7
  have f3 := ro_29.mp f3
  clear m1 m2 m3 m4
  have q0 : rB K n p 87 [rI x0, rI x1, rI x3, rI x4] σ := ro_87.mpr (by
    obtain ⟨e1, e2, e3⟩ := rMv (m := x5.toInt) (f := x0.toInt) (t := x1.toInt) (b := x3.toInt) b0 d0 b1 d1 (by omega)
    obtain ⟨k0, k1, k2, k3, k4, k5⟩ := f0
    refine ⟨k0, k1, k2, k3, k4.imp (fun h => ⟨h.1, by have := h.2; omega⟩) (fun h => ⟨h.1, by have := h.2; omega, by have := h.2; omega⟩), fun hz m h1 h2 h3 => ?_⟩
    by_cases cm : rFr m = x0.toInt ∧ rTo m = x1.toInt ∧ rBc m = x3.toInt
    · have em : m = x5.toInt := by
        obtain ⟨c1, c2, c3⟩ := cm
        unfold rFr at c1
        unfold rTo at c2
        unfold rBc at c3
        omega
      rw [em] at h2
      rcases f3 with h9 | h9
      · have := h9.1; omega
      · exact h9.2 h2
    · refine k5 hz m h1 h2 ?_
      rcases h3 with h3 | ⟨h3, h4 | ⟨h4, h5⟩⟩
      · exact Or.inl h3
      · exact Or.inr ⟨h3, Or.inl h4⟩
      · exact Or.inr ⟨h3, Or.inr ⟨h4, by omega⟩⟩)
  exact ⟨p, fun _ => rfl, ⟨(fun q h => by cases h), fun q h => (by cases h), (fun f h => by cases h), (aAllc ⟨_, rfl, (rF_b (r := 1396) (by decide) rfl).mpr q0⟩ (fun f h => by cases h))⟩, [], List.mem_cons_self, fun f h => (by cases h)⟩
theorem rw_rvJn1 {K : Nat → Nat} {n : Nat} {JX : (Nat → jcell) → Prop} : aGho (rF K n) fa_T K n JX ag_rvJn1 := by
  refine aGho_of ⟨rfl, rfl⟩ ?_
  intro p σ ρ hH hX hA hM0
  have hG := aAG_of hA.1 (fun i e v he hv => (hA.2 i e v he hv).1)
  clear hA
  obtain ⟨v0, v1, v2, v3, v4, v5, v6, rfl, g0, g1, g2, g3, g4, g5, g6⟩ := rA_7 hG
  clear hG
  obtain ⟨x0, rfl, b0, d0⟩ := aG_int g0
  dsimp only at b0 d0
  obtain ⟨x1, rfl, b1, d1⟩ := aG_int g1
  dsimp only at b1 d1
  obtain ⟨x2, rfl, b2, d2⟩ := aG_int g2
  dsimp only at b2 d2
  obtain ⟨x3, rfl, b3, d3⟩ := aG_int g3
  dsimp only at b3 d3
  obtain ⟨x4, rfl, b4, d4⟩ := aG_int g4
  dsimp only at b4 d4
  obtain ⟨x5, rfl, b5, d5⟩ := aG_int g5
  dsimp only at b5 d5
  obtain ⟨x6, rfl, b6, d6⟩ := aG_int g6
  dsimp only at b6 d6
  obtain ⟨m1, m2, m3, m4⟩ := hM0
  have l0 : 0 ≤ (1 * x5.toInt + (-1 * x0.toInt + (-64 * x1.toInt + (-4096 * x3.toInt + 0)))) + 0 := by
    obtain ⟨z, e6, e7⟩ := m3 ([(5, 1), (0, -1), (1, -64), (3, -4096)], 0) (List.mem_of_getElem? (i := 0) rfl)
    obtain rfl : (1 * x5.toInt + (-1 * x0.toInt + (-64 * x1.toInt + (-4096 * x3.toInt + 0)))) = z := Option.some.inj (show some (1 * x5.toInt + (-1 * x0.toInt + (-64 * x1.toInt + (-4096 * x3.toInt + 0)))) = some z from e6)
    exact e7
  have l1 : 0 ≤ (-1 * x5.toInt + (1 * x0.toInt + (64 * x1.toInt + (4096 * x3.toInt + 0)))) + 0 := by
    obtain ⟨z, e6, e7⟩ := m3 ([(5, -1), (0, 1), (1, 64), (3, 4096)], 0) (List.mem_of_getElem? (i := 1) rfl)
    obtain rfl : (-1 * x5.toInt + (1 * x0.toInt + (64 * x1.toInt + (4096 * x3.toInt + 0)))) = z := Option.some.inj (show some (-1 * x5.toInt + (1 * x0.toInt + (64 * x1.toInt + (4096 * x3.toInt + 0)))) = some z from e6)
    exact e7
  have f0 : rB K n p 75 [rI x0, rI x1, rI x3, rI x4] σ := by
    obtain ⟨w, e6, e7⟩ := m4 (1204, [0, 1, 3, 4]) (List.mem_of_getElem? (i := 0) rfl)
    obtain rfl : [rI x0, rI x1, rI x3, rI x4] = w := Option.some.inj (show some [rI x0, rI x1, rI x3, rI x4] = some w from e6)
    exact (rF_b (r := 1204) (by decide) rfl).mp e7
  have f0 := ro_75.mp f0
  have f1 : rB K n p 86 [rI x0, rI x1, rI x2] σ := by
    obtain ⟨w, e6, e7⟩ := m4 (1379, [0, 1, 2]) (List.mem_of_getElem? (i := 1) rfl)
    obtain rfl : [rI x0, rI x1, rI x2] = w := Option.some.inj (show some [rI x0, rI x1, rI x2] = some w from e6)
    exact (rF_b (r := 1379) (by decide) rfl).mp e7
  have f1 := ro_86.mp f1
  have f2 : rB K n p 25 [rI x5] σ := by
    obtain ⟨w, e6, e7⟩ := m4 (401, [5]) (List.mem_of_getElem? (i := 2) rfl)
    obtain rfl : [rI x5] = w := Option.some.inj (show some [rI x5] = some w from e6)
    exact (rF_b (r := 401) (by decide) rfl).mp e7
  have f2 := ro_25.mp f2
  have f3 : rB K n p 29 [rI x5, rI x6] σ := by
    obtain ⟨w, e6, e7⟩ := m4 (466, [5, 6]) (List.mem_of_getElem? (i := 3) rfl)
    obtain rfl : [rI x5, rI x6] = w := Option.some.inj (show some [rI x5, rI x6] = some w from e6)
    exact (rF_b (r := 466) (by decide) rfl).mp e7
  have f3 := ro_29.mp f3
  clear m1 m2 m3 m4
  have q0 : rB K n p 87 [rI x0, rI x1, rI x3, rI x4] σ := ro_87.mpr (by
    obtain ⟨e1, e2, e3⟩ := rMv (m := x5.toInt) (f := x0.toInt) (t := x1.toInt) (b := x3.toInt) b0 d0 b1 d1 (by omega)
    obtain ⟨k0, k1, k2, k3, k4, k5⟩ := f0
    refine ⟨k0, k1, k2, k3, k4.imp (fun h => ⟨h.1, by have := h.2; omega⟩) (fun h => ⟨h.1, by have := h.2; omega, by have := h.2; omega⟩), fun hz m h1 h2 h3 => ?_⟩
    by_cases cm : rFr m = x0.toInt ∧ rTo m = x1.toInt ∧ rBc m = x3.toInt
    · have em : m = x5.toInt := by
        obtain ⟨c1, c2, c3⟩ := cm
        unfold rFr at c1
        unfold rTo at c2
        unfold rBc at c3
        omega
      rw [em] at h2
      rcases f3 with h9 | h9
      · have := h9.1; omega
      · exact h9.2 h2
    · refine k5 hz m h1 h2 ?_
      rcases h3 with h3 | ⟨h3, h4 | ⟨h4, h5⟩⟩
      · exact Or.inl h3
      · exact Or.inr ⟨h3, Or.inl h4⟩
      · exact Or.inr ⟨h3, Or.inr ⟨h4, by omega⟩⟩)
  exact ⟨p, fun _ => rfl, ⟨(fun q h => by cases h), fun q h => (by cases h), (fun f h => by cases h), (aAllc ⟨_, rfl, (rF_b (r := 1396) (by decide) rfl).mpr q0⟩ (fun f h => by cases h))⟩, [], List.mem_cons_self, fun f h => (by cases h)⟩
theorem rw_rvJs {K : Nat → Nat} {n : Nat} {JX : (Nat → jcell) → Prop} : aGho (rF K n) fa_T K n JX ag_rvJs := by
  refine aGho_of ⟨rfl, rfl⟩ ?_
  intro p σ ρ hH hX hA hM0
  have hG := aAG_of hA.1 (fun i e v he hv => (hA.2 i e v he hv).1)
  clear hA
  obtain ⟨v0, v1, v2, v3, v4, rfl, g0, g1, g2, g3, g4⟩ := rA_5 hG
  clear hG
  obtain ⟨x0, rfl, b0, d0⟩ := aG_int g0
  dsimp only at b0 d0
  obtain ⟨x1, rfl, b1, d1⟩ := aG_int g1
  dsimp only at b1 d1
  obtain ⟨x2, rfl, b2, d2⟩ := aG_int g2
  dsimp only at b2 d2
  obtain ⟨x3, rfl, b3, d3⟩ := aG_int g3
  dsimp only at b3 d3
  obtain ⟨x4, rfl, b4, d4⟩ := aG_int g4
  dsimp only at b4 d4
  obtain ⟨m1, m2, m3, m4⟩ := hM0
  have l0 : 0 ≤ (1 * x4.toInt + (-1 * x2.toInt + 0)) + -1 := by
    obtain ⟨z, e6, e7⟩ := m3 ([(4, 1), (2, -1)], -1) (List.mem_of_getElem? (i := 0) rfl)
    obtain rfl : (1 * x4.toInt + (-1 * x2.toInt + 0)) = z := Option.some.inj (show some (1 * x4.toInt + (-1 * x2.toInt + 0)) = some z from e6)
    exact e7
  have l1 : 0 ≤ (-1 * x4.toInt + (1 * x2.toInt + 0)) + 1 := by
    obtain ⟨z, e6, e7⟩ := m3 ([(4, -1), (2, 1)], 1) (List.mem_of_getElem? (i := 1) rfl)
    obtain rfl : (-1 * x4.toInt + (1 * x2.toInt + 0)) = z := Option.some.inj (show some (-1 * x4.toInt + (1 * x2.toInt + 0)) = some z from e6)
    exact e7
  have f0 : rB K n p 87 [rI x0, rI x1, rI x2, rI x3] σ := by
    obtain ⟨w, e6, e7⟩ := m4 (1396, [0, 1, 2, 3]) (List.mem_of_getElem? (i := 0) rfl)
    obtain rfl : [rI x0, rI x1, rI x2, rI x3] = w := Option.some.inj (show some [rI x0, rI x1, rI x2, rI x3] = some w from e6)
    exact (rF_b (r := 1396) (by decide) rfl).mp e7
  have f0 := ro_87.mp f0
  clear m1 m2 m3 m4
  have q0 : rB K n p 75 [rI x0, rI x1, rI x4, rI x3] σ := ro_75.mpr (by
    rw [show x4.toInt = x2.toInt + 1 by omega]
    exact f0)
  exact ⟨p, fun _ => rfl, ⟨(fun q h => by cases h), fun q h => (by cases h), (fun f h => by cases h), (aAllc ⟨_, rfl, (rF_b (r := 1204) (by decide) rfl).mpr q0⟩ (fun f h => by cases h))⟩, [], List.mem_cons_self, fun f h => (by cases h)⟩
theorem rw_rvJe0 {K : Nat → Nat} {n : Nat} {JX : (Nat → jcell) → Prop} : aGho (rF K n) fa_T K n JX ag_rvJe0 := by
  refine aGho_of ⟨rfl, rfl⟩ ?_
  intro p σ ρ hH hX hA hM0
  have hG := aAG_of hA.1 (fun i e v he hv => (hA.2 i e v he hv).1)
  clear hA
  obtain ⟨v0, v1, v2, v3, v4, rfl, g0, g1, g2, g3, g4⟩ := rA_5 hG
  clear hG
  obtain ⟨x0, rfl, b0, d0⟩ := aG_int g0
  dsimp only at b0 d0
  obtain ⟨x1, rfl, b1, d1⟩ := aG_int g1
  dsimp only at b1 d1
  obtain ⟨x2, rfl, b2, d2⟩ := aG_int g2
  dsimp only at b2 d2
  obtain ⟨x3, rfl, b3, d3⟩ := aG_int g3
  dsimp only at b3 d3
  obtain ⟨x4, rfl, b4, d4⟩ := aG_int g4
  dsimp only at b4 d4
  obtain ⟨m1, m2, m3, m4⟩ := hM0
  have f0 : rB K n p 75 [rI x0, rI x1, rI x3, rI x4] σ := by
    obtain ⟨w, e6, e7⟩ := m4 (1204, [0, 1, 3, 4]) (List.mem_of_getElem? (i := 0) rfl)
    obtain rfl : [rI x0, rI x1, rI x3, rI x4] = w := Option.some.inj (show some [rI x0, rI x1, rI x3, rI x4] = some w from e6)
    exact (rF_b (r := 1204) (by decide) rfl).mp e7
  have f0 := ro_75.mp f0
  have f1 : rB K n p 86 [rI x0, rI x1, rI x2] σ := by
    obtain ⟨w, e6, e7⟩ := m4 (1379, [0, 1, 2]) (List.mem_of_getElem? (i := 1) rfl)
    obtain rfl : [rI x0, rI x1, rI x2] = w := Option.some.inj (show some [rI x0, rI x1, rI x2] = some w from e6)
    exact (rF_b (r := 1379) (by decide) rfl).mp e7
  have f1 := ro_86.mp f1
  clear m1 m2 m3 m4
  have q0 : rB K n p 84 [rI x0, rI x1, rI x4] σ := ro_84.mpr (by
    obtain ⟨hsd, k1, k2, k3, k4, k5⟩ := f0
    have hw : rWt (p.1.1 x0.toInt % 8) x0.toInt x1.toInt = 1 := by
      unfold rWt
      rw [if_pos (rGO_sup k3 b0 d0 hsd)]
      unfold rLs at f1
      rw [if_neg (by omega)]
    refine ⟨?_, fun hz m h1 h2 h3 => ?_⟩
    · rw [rSm_s b1, hw]
      unfold rLs at f1 k4
      omega
    · refine k5 hz m h1 h2 ?_
      rcases h3 with h3 | ⟨h3, h4 | ⟨h4, h5⟩⟩
      · exact Or.inl h3
      · by_cases ct : rTo m = x1.toInt
        · refine Or.inr ⟨h3, Or.inr ⟨ct, ?_⟩⟩
          obtain ⟨-, -, -, -, -, h6⟩ := h1
          unfold rLs at f1
          rw [h3, ct] at h6
          omega
        · exact Or.inr ⟨h3, Or.inl (by omega)⟩
      · have := h1.1
        unfold rBc at h5
        omega)
  exact ⟨p, fun _ => rfl, ⟨(fun q h => by cases h), fun q h => (by cases h), (fun f h => by cases h), (aAllc ⟨_, rfl, (rF_b (r := 1347) (by decide) rfl).mpr q0⟩ (fun f h => by cases h))⟩, [], List.mem_cons_self, fun f h => (by cases h)⟩
theorem rw_rvJe1 {K : Nat → Nat} {n : Nat} {JX : (Nat → jcell) → Prop} : aGho (rF K n) fa_T K n JX ag_rvJe1 := by
  refine aGho_of ⟨rfl, rfl⟩ ?_
  intro p σ ρ hH hX hA hM0
  have hG := aAG_of hA.1 (fun i e v he hv => (hA.2 i e v he hv).1)
  clear hA
  obtain ⟨v0, v1, v2, v3, v4, rfl, g0, g1, g2, g3, g4⟩ := rA_5 hG
  clear hG
  obtain ⟨x0, rfl, b0, d0⟩ := aG_int g0
  dsimp only at b0 d0
  obtain ⟨x1, rfl, b1, d1⟩ := aG_int g1
  dsimp only at b1 d1
  obtain ⟨x2, rfl, b2, d2⟩ := aG_int g2
  dsimp only at b2 d2
  obtain ⟨x3, rfl, b3, d3⟩ := aG_int g3
  dsimp only at b3 d3
  obtain ⟨x4, rfl, b4, d4⟩ := aG_int g4
  dsimp only at b4 d4
  obtain ⟨m1, m2, m3, m4⟩ := hM0
  have f0 : rB K n p 75 [rI x0, rI x1, rI x3, rI x4] σ := by
    obtain ⟨w, e6, e7⟩ := m4 (1204, [0, 1, 3, 4]) (List.mem_of_getElem? (i := 0) rfl)
    obtain rfl : [rI x0, rI x1, rI x3, rI x4] = w := Option.some.inj (show some [rI x0, rI x1, rI x3, rI x4] = some w from e6)
    exact (rF_b (r := 1204) (by decide) rfl).mp e7
  have f0 := ro_75.mp f0
  have f1 : rB K n p 86 [rI x0, rI x1, rI x2] σ := by
    obtain ⟨w, e6, e7⟩ := m4 (1379, [0, 1, 2]) (List.mem_of_getElem? (i := 1) rfl)
    obtain rfl : [rI x0, rI x1, rI x2] = w := Option.some.inj (show some [rI x0, rI x1, rI x2] = some w from e6)
    exact (rF_b (r := 1379) (by decide) rfl).mp e7
  have f1 := ro_86.mp f1
  clear m1 m2 m3 m4
  have q0 : rB K n p 84 [rI x0, rI x1, rI x4] σ := ro_84.mpr (by
    obtain ⟨hsd, k1, k2, k3, k4, k5⟩ := f0
    have hw : rWt (p.1.1 x0.toInt % 8) x0.toInt x1.toInt = 4 := by
      unfold rWt
      rw [if_pos (rGO_sup k3 b0 d0 hsd)]
      unfold rLs at f1
      rw [if_pos (by omega)]
    refine ⟨?_, fun hz m h1 h2 h3 => ?_⟩
    · rw [rSm_s b1, hw]
      unfold rLs at f1 k4
      omega
    · refine k5 hz m h1 h2 ?_
      rcases h3 with h3 | ⟨h3, h4 | ⟨h4, h5⟩⟩
      · exact Or.inl h3
      · by_cases ct : rTo m = x1.toInt
        · refine Or.inr ⟨h3, Or.inr ⟨ct, ?_⟩⟩
          obtain ⟨-, -, -, -, -, h6⟩ := h1
          unfold rLs at f1
          rw [h3, ct] at h6
          omega
        · exact Or.inr ⟨h3, Or.inl (by omega)⟩
      · have := h1.1
        unfold rBc at h5
        omega)
  exact ⟨p, fun _ => rfl, ⟨(fun q h => by cases h), fun q h => (by cases h), (fun f h => by cases h), (aAllc ⟨_, rfl, (rF_b (r := 1347) (by decide) rfl).mpr q0⟩ (fun f h => by cases h))⟩, [], List.mem_cons_self, fun f h => (by cases h)⟩
theorem rw_rvNL {K : Nat → Nat} {n : Nat} {JX : (Nat → jcell) → Prop} : aGho (rF K n) fa_T K n JX ag_rvNL := by
  refine aGho_of ⟨rfl, rfl⟩ ?_
  intro p σ ρ hH hX hA hM0
  have hG := aAG_of hA.1 (fun i e v he hv => (hA.2 i e v he hv).1)
  clear hA
  obtain ⟨v0, v1, rfl, g0, g1⟩ := rA_2 hG
  clear hG
  obtain ⟨x0, rfl, b0, d0⟩ := aG_int g0
  dsimp only at b0 d0
  obtain ⟨x1, rfl, b1, d1⟩ := aG_int g1
  dsimp only at b1 d1
  obtain ⟨m1, m2, m3, m4⟩ := hM0
  have f0 : rB K n p 73 [rI x0, rI x1] σ := by
    obtain ⟨w, e6, e7⟩ := m4 (1170, [0, 1]) (List.mem_of_getElem? (i := 0) rfl)
    obtain rfl : [rI x0, rI x1] = w := Option.some.inj (show some [rI x0, rI x1] = some w from e6)
    exact (rF_b (r := 1170) (by decide) rfl).mp e7
  have f0 := ro_73.mp f0
  clear m1 m2 m3 m4
  have q0 : rB K n p 78 [rI x1] σ := ro_78.mpr (by
    intro hz m h1 h2
    have h4 := rFr_r (m := m)
    exact f0.2 hz m h1 h2 (Or.inl (by omega)))
  exact ⟨p, fun _ => rfl, ⟨(fun q h => by cases h), fun q h => (by cases h), (fun f h => by cases h), (aAllc ⟨_, rfl, (rF_b (r := 1249) (by decide) rfl).mpr q0⟩ (fun f h => by cases h))⟩, [], List.mem_cons_self, fun f h => (by cases h)⟩
theorem rw_rvCT {K : Nat → Nat} {n : Nat} {JX : (Nat → jcell) → Prop} : aGho (rF K n) fa_T K n JX ag_rvCT := by
  refine aGho_of ⟨rfl, rfl⟩ ?_
  intro p σ ρ hH hX hA hM0
  have hG := aAG_of hA.1 (fun i e v he hv => (hA.2 i e v he hv).1)
  clear hA
  obtain ⟨v0, v1, v2, v3, rfl, g0, g1, g2, g3⟩ := rA_4 hG
  clear hG
  obtain ⟨x0, rfl, b0, d0⟩ := rG_ref (by decide) g0
  obtain ⟨x1, rfl, b1, d1⟩ := rG_ref (by decide) g1
  obtain ⟨x2, rfl, b2, d2⟩ := aG_int g2
  dsimp only at b2 d2
  obtain ⟨x3, rfl, b3, d3⟩ := aG_int g3
  dsimp only at b3 d3
  obtain ⟨m1, m2, m3, m4⟩ := hM0
  obtain ⟨M, hM⟩ := rMe_ex hH b0 d0
  obtain ⟨a0, c0, fs0, w0, e1, s0, t0, e4⟩ := m1 (0, 22, 1) (List.mem_of_getElem? (i := 0) rfl)
  obtain rfl : x0 = a0 := Sum.inl.inj (Option.some.inj (Sum.inr.inj (Sum.inr.inj (Option.some.inj (show some (rR x0) = some _ from e1)))))
  obtain rfl : rR x1 = w0 := Option.some.inj (show some (rR x1) = some w0 from e4)
  clear e1 e4
  clear m1 m2 m3 m4
  have q0 : rB K n p 168 [rR x0, rI x2, rI x3] (jup σ x1 (jsto (σ x1) x2.toNatClampNeg x3)) := ro_168.mpr (by
    obtain ⟨g, h⟩ := rRo_of (k := 88) (f := 22) hH b0 d0 s0 t0 b1 d1 rfl
    refine ⟨by omega, _, rRo_up h s0 t0, ?_⟩
    unfold upd
    rw [if_pos (show x2.toInt.toNat = x2.toNatClampNeg from rfl)])
  exact ⟨p, fun _ => rfl, ⟨(fun q h => by cases h), fun q h => (by cases h), (fun f h => by cases h), (aAllc ⟨_, rfl, rF_p (r := 2691) (by decide) (by decide) q0⟩ (fun f h => by cases h))⟩, [], List.mem_cons_self, fun f h => (by cases h)⟩
theorem rw_rvKF2 {K : Nat → Nat} {n : Nat} {JX : (Nat → jcell) → Prop} : aGho (rF K n) fa_T K n JX ag_rvKF2 := by
  refine aGho_of ⟨rfl, rfl⟩ ?_
  intro p σ ρ hH hX hA hM0
  have hG := aAG_of hA.1 (fun i e v he hv => (hA.2 i e v he hv).1)
  clear hA
  obtain ⟨v0, v1, v2, v3, v4, rfl, g0, g1, g2, g3, g4⟩ := rA_5 hG
  clear hG
  obtain ⟨x0, rfl, b0, d0⟩ := rG_ref (by decide) g0
  obtain ⟨x1, rfl, b1, d1⟩ := aG_int g1
  dsimp only at b1 d1
  obtain ⟨x2, rfl, b2, d2⟩ := aG_int g2
  dsimp only at b2 d2
  obtain ⟨x3, rfl, b3, d3⟩ := aG_int g3
  dsimp only at b3 d3
  obtain ⟨x4, rfl, b4, d4⟩ := rG_ref (by decide) g4
  obtain ⟨m1, m2, m3, m4⟩ := hM0
  obtain ⟨M, hM⟩ := rMe_ex hH b0 d0
  obtain ⟨a0, c0, fs0, w0, e1, s0, t0, e4⟩ := m1 (0, 2, 4) (List.mem_of_getElem? (i := 0) rfl)
  obtain rfl : x0 = a0 := Sum.inl.inj (Option.some.inj (Sum.inr.inj (Sum.inr.inj (Option.some.inj (show some (rR x0) = some _ from e1)))))
  obtain rfl : rR x4 = w0 := Option.some.inj (show some (rR x4) = some w0 from e4)
  clear e1 e4
  obtain ⟨a, mc0, ty0, gc0, ic0, e1, sc0, jc0, e4, e5⟩ := m2 (4, ([(1, 1)], 0), 2) (List.mem_of_getElem? (i := 0) rfl)
  obtain rfl : x4 = a := Sum.inl.inj (Option.some.inj (Sum.inr.inj (Sum.inr.inj (Option.some.inj (show some (rR x4) = some _ from e1)))))
  obtain ⟨gc0, rfl⟩ : ∃ g, gc0 = .inl g := by
    rcases gc0 with g | g
    · exact ⟨g, rfl⟩
    · exact absurd (show some (rI x2) = some (.inr (.inl (g ic0))) from e5) (fun h => by cases h)
  have sc0 : σ x4 = .inl (ty0, mc0, .inl gc0) := sc0
  have ec0 : x2 = gc0 ic0 := Sum.inl.inj (Option.some.inj (show some (rI x2) = some _ from e5))
  have kc0 : (ic0 : Int) = (1 * x1.toInt + 0) + 0 := by
    obtain ⟨z, e6, e7⟩ := e4
    obtain rfl : (1 * x1.toInt + 0) = z := Option.some.inj (show some (1 * x1.toInt + 0) = some z from e6)
    exact e7
  clear e1 e4 e5
  have y0 : M x1.toInt = x2.toInt := rMg_c hM s0 t0 sc0 (by omega) (by omega) (by omega) ec0
  have f0 : rB K n p 147 [rI x2, rI x3] σ := by
    obtain ⟨w, e6, e7⟩ := m4 (2354, [2, 3]) (List.mem_of_getElem? (i := 0) rfl)
    obtain rfl : [rI x2, rI x3] = w := Option.some.inj (show some [rI x2, rI x3] = some w from e6)
    exact (rF_b (r := 2354) (by decide) rfl).mp e7
  have f0 := ro_147.mp f0
  clear m1 m2 m3 m4
  have q0 : rB K n p 148 [rR x0, rI x1, rI x3] σ := ro_148.mpr ⟨_, hM, by
    rw [y0]
    exact f0⟩
  exact ⟨p, fun _ => rfl, ⟨(fun q h => by cases h), fun q h => (by cases h), (fun f h => by cases h), (aAllc ⟨_, rfl, (rF_b (r := 2371) (by decide) rfl).mpr q0⟩ (fun f h => by cases h))⟩, [], List.mem_cons_self, fun f h => (by cases h)⟩

