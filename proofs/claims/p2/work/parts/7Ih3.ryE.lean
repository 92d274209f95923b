/-! the reference: rules of uO -/
theorem rw_rqG1 {N : Int} {K : Nat → Nat} {n : Nat} {JX : (Nat → jcell) → Prop} : aGho (rH N K n) fa_T K n JX ag_rqG1 := by
  refine aGho_of ⟨rfl, rfl⟩ ?_
  intro p σ ρ hH hX hA hM0
  have hG := aAG_of hA.1 (fun i e v he hv => (hA.2 i e v he hv).1)
  clear hA
  obtain ⟨v0, v1, v2, rfl, g0, g1, g2⟩ := rA_3 hG
  clear hG
  obtain ⟨x0, rfl, b0, d0⟩ := rG_ref (by decide) g0
  obtain ⟨x1, rfl, b1, d1⟩ := aG_int g1
  dsimp only at b1 d1
  obtain ⟨x2, rfl, b2, d2⟩ := aG_int g2
  dsimp only at b2 d2
  obtain ⟨m1, m2, m3, m4⟩ := hM0
  obtain ⟨T, hT⟩ := rTe_ex hH b0 d0
  have f0 : rB3 N K n p 280 [rR x0, rI x1] σ := by
    obtain ⟨w, e6, e7⟩ := m4 (4482, [0, 1]) (List.mem_of_getElem? (i := 0) rfl)
    obtain rfl : [rR x0, rI x1] = w := Option.some.inj (show some [rR x0, rI x1] = some w from e6)
    exact (rF_b (r := 4482) (by decide) rfl).mp e7
  have f0 := ro3_280.mp f0
  clear m1 m2 m3 m4
  have q0 : rB3 N K n p 280 [rR x0, rI x2] σ := ro3_280.mpr (by
    obtain rfl : x1 = x2 := Int32.toInt_inj.mp (by omega)
    exact f0)
  exact ⟨p, fun _ => rfl, ⟨(fun q h => by cases h), fun q h => (by cases h), (fun f h => by cases h), (aAllc ⟨_, rfl, (rF_b (r := 4482) (by decide) rfl).mpr q0⟩ (fun f h => by cases h))⟩, [], List.mem_cons_self, fun f h => (by cases h)⟩
theorem rw_rqG2 {N : Int} {K : Nat → Nat} {n : Nat} {JX : (Nat → jcell) → Prop} : aGho (rH N K n) fa_T K n JX ag_rqG2 := by
  refine aGho_of ⟨rfl, rfl⟩ ?_
  intro p σ ρ hH hX hA hM0
  have hG := aAG_of hA.1 (fun i e v he hv => (hA.2 i e v he hv).1)
  clear hA
  obtain ⟨v0, v1, v2, rfl, g0, g1, g2⟩ := rA_3 hG
  clear hG
  obtain ⟨x0, rfl, b0, d0⟩ := rG_ref (by decide) g0
  obtain ⟨x1, rfl, b1, d1⟩ := aG_int g1
  dsimp only at b1 d1
  obtain ⟨x2, rfl, b2, d2⟩ := aG_int g2
  dsimp only at b2 d2
  obtain ⟨m1, m2, m3, m4⟩ := hM0
  obtain ⟨T, hT⟩ := rTe_ex hH b0 d0
  have f0 : rB3 N K n p 281 [rR x0, rI x1] σ := by
    obtain ⟨w, e6, e7⟩ := m4 (4498, [0, 1]) (List.mem_of_getElem? (i := 0) rfl)
    obtain rfl : [rR x0, rI x1] = w := Option.some.inj (show some [rR x0, rI x1] = some w from e6)
    exact (rF_b (r := 4498) (by decide) rfl).mp e7
  have f0 := ro3_281.mp f0
  clear m1 m2 m3 m4
  have q0 : rB3 N K n p 281 [rR x0, rI x2] σ := ro3_281.mpr (by
    obtain rfl : x1 = x2 := Int32.toInt_inj.mp (by omega)
    exact f0)
  exact ⟨p, fun _ => rfl, ⟨(fun q h => by cases h), fun q h => (by cases h), (fun f h => by cases h), (aAllc ⟨_, rfl, (rF_b (r := 4498) (by decide) rfl).mpr q0⟩ (fun f h => by cases h))⟩, [], List.mem_cons_self, fun f h => (by cases h)⟩
theorem rw_rqG3 {N : Int} {K : Nat → Nat} {n : Nat} {JX : (Nat → jcell) → Prop} : aGho (rH N K n) fa_T K n JX ag_rqG3 := by
  refine aGho_of ⟨rfl, rfl⟩ ?_
  intro p σ ρ hH hX hA hM0
  have hG := aAG_of hA.1 (fun i e v he hv => (hA.2 i e v he hv).1)
  clear hA
  obtain ⟨v0, v1, v2, v3, v4, rfl, g0, g1, g2, g3, g4⟩ := rA_5 hG
  clear hG
  obtain ⟨x0, rfl, b0, d0⟩ := rG_ref (by decide) g0
  obtain ⟨x1, rfl, b1, d1⟩ := aG_int g1
  dsimp only at b1 d1
  obtain ⟨x2, rfl, b2, d2⟩ := aG_int g2
  dsimp only at b2 d2
  obtain ⟨x3, rfl, b3, d3⟩ := aG_int g3
  dsimp only at b3 d3
  obtain ⟨x4, rfl, b4, d4⟩ := aG_int g4
  dsimp only at b4 d4
  obtain ⟨m1, m2, m3, m4⟩ := hM0
  obtain ⟨T, hT⟩ := rTe_ex hH b0 d0
  have f0 : rB3 N K n p 245 [rR x0, rI x1, rI x2] σ := by
    obtain ⟨w, e6, e7⟩ := m4 (3923, [0, 1, 2]) (List.mem_of_getElem? (i := 0) rfl)
    obtain rfl : [rR x0, rI x1, rI x2] = w := Option.some.inj (show some [rR x0, rI x1, rI x2] = some w from e6)
    exact (rF_b (r := 3923) (by decide) rfl).mp e7
  have f0 := ro3_245.mp f0
  have f1 : rB3 N K n p 241 [rR x0, rI x1, rI x2] σ := by
    obtain ⟨w, e6, e7⟩ := m4 (3859, [0, 1, 2]) (List.mem_of_getElem? (i := 1) rfl)
    obtain rfl : [rR x0, rI x1, rI x2] = w := Option.some.inj (show some [rR x0, rI x1, rI x2] = some w from e6)
    exact (rF_b (r := 3859) (by decide) rfl).mp e7
  obtain ⟨C, y, hY, f1⟩ := ro3_241.mp f1
  clear m1 m2 m3 m4
  have q0 : rB3 N K n p 245 [rR x0, rI x3, rI x4] σ := ro3_245.mpr (by
    obtain rfl : x1 = x3 := Int32.toInt_inj.mp (by omega)
    obtain rfl : x2 = x4 := Int32.toInt_inj.mp (by omega)
    exact f0)
  have q1 : rB3 N K n p 241 [rR x0, rI x3, rI x4] σ := ro3_241.mpr (by
    obtain rfl : x1 = x3 := Int32.toInt_inj.mp (by omega)
    obtain rfl : x2 = x4 := Int32.toInt_inj.mp (by omega)
    exact ⟨C, y, hY, f1⟩)
  exact ⟨p, fun _ => rfl, ⟨(fun q h => by cases h), fun q h => (by cases h), (fun f h => by cases h), (aAllc ⟨_, rfl, (rF_b (r := 3923) (by decide) rfl).mpr q0⟩ (aAllc ⟨_, rfl, (rF_b (r := 3859) (by decide) rfl).mpr q1⟩ (fun f h => by cases h)))⟩, [], List.mem_cons_self, fun f h => (by cases h)⟩

