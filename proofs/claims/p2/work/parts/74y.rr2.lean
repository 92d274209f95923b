/-! the reference: rules of g2 -/
theorem rw_rvHK {K : Nat → Nat} {n : Nat} {JX : (Nat → jcell) → Prop} : aGho (rF K n) fa_T K n JX ag_rvHK := by
  refine aGho_of ⟨rfl, rfl⟩ ?_
  intro p σ ρ hH hX hA hM0
  have hG := aAG_of hA.1 (fun i e v he hv => (hA.2 i e v he hv).1)
  clear hA
  obtain ⟨v0, rfl, g0⟩ := rA_1 hG
  clear hG
  obtain ⟨x0, rfl, b0, d0⟩ := rG_ref (by decide) g0
  obtain ⟨m1, m2, m3, m4⟩ := hM0
  obtain ⟨M, hM⟩ := rMe_ex hH b0 d0
  have f0 : rB K n p 22 [rR x0] σ := by
    obtain ⟨w, e6, e7⟩ := m4 (353, [0]) (List.mem_of_getElem? (i := 0) rfl)
    obtain rfl : [rR x0] = w := Option.some.inj (show some [rR x0] = some w from e6)
    exact (rF_b (r := 353) (by decide) rfl).mp e7
  obtain ⟨hp, hR⟩ := ro_22.mp f0
  obtain rfl := rMg_u hM hR.1
  have f1 : rB K n p 24 [] σ := by
    obtain ⟨w, e6, e7⟩ := m4 (384, []) (List.mem_of_getElem? (i := 1) rfl)
    obtain rfl : [] = w := Option.some.inj (show some [] = some w from e6)
    exact (rF_b (r := 384) (by decide) rfl).mp e7
  have f1 := ro_24.mp f1
  clear m1 m2 m3 m4
  have q0 : rB K n p 139 [rR x0] σ := ro_139.mpr ⟨_, hM, by
    exact f1.2.2.2.1⟩
  exact ⟨p, fun _ => rfl, ⟨(fun q h => by cases h), fun q h => (by cases h), (fun f h => by cases h), (aAllc ⟨_, rfl, (rF_b (r := 2225) (by decide) rfl).mpr q0⟩ (fun f h => by cases h))⟩, [], List.mem_cons_self, fun f h => (by cases h)⟩
theorem rw_rvMCr10 {K : Nat → Nat} {n : Nat} {JX : (Nat → jcell) → Prop} : aGho (rF K n) fa_T K n JX ag_rvMCr10 := by
  refine aGho_of ⟨rfl, rfl⟩ ?_
  intro p σ ρ hH hX hA hM0
  have hG := aAG_of hA.1 (fun i e v he hv => (hA.2 i e v he hv).1)
  clear hA
  obtain ⟨v0, v1, v2, v3, v4, v5, v6, rfl, g0, g1, g2, g3, g4, g5, g6⟩ := rA_7 hG
  clear hG
  obtain ⟨x0, rfl, b0, d0⟩ := rG_ref (by decide) g0
  obtain ⟨x1, rfl, b1, d1⟩ := aG_int g1
  dsimp only at b1 d1
  obtain ⟨x2, rfl, b2, d2⟩ := aG_int g2
  dsimp only at b2 d2
  obtain ⟨x3, rfl, b3, d3⟩ := aG_int g3
  dsimp only at b3 d3
  obtain ⟨x4, rfl, b4, d4⟩ := aG_int g4
  dsimp only at b4 d4
  obtain ⟨x5, rfl, b5, d5⟩ := aG_int g5
  dsimp only at b5 d5
  obtain ⟨x6, rfl, b6, d6⟩ := aG_int g6
  dsimp only at b6 d6
  obtain ⟨m1, m2, m3, m4⟩ := hM0
  obtain ⟨M, hM⟩ := rMe_ex hH b0 d0
  obtain ⟨a0, c0, fs0, w0, e1, s0, t0, e4⟩ := m1 (0, 3, 6) (List.mem_of_getElem? (i := 0) rfl)
  obtain rfl : x0 = a0 := Sum.inl.inj (Option.some.inj (Sum.inr.inj (Sum.inr.inj (Option.some.inj (show some (rR x0) = some _ from e1)))))
  obtain rfl : rI x6 = w0 := Option.some.inj (show some (rI x6) = some w0 from e4)
  clear e1 e4
  obtain ⟨a1, c1, fs1, w1, e1, s1, t1, e4⟩ := m1 (0, 4, 3) (List.mem_of_getElem? (i := 1) rfl)
  obtain rfl : x0 = a1 := Sum.inl.inj (Option.some.inj (Sum.inr.inj (Sum.inr.inj (Option.some.inj (show some (rR x0) = some _ from e1)))))
  obtain rfl : rI x3 = w1 := Option.some.inj (show some (rI x3) = some w1 from e4)
  clear e1 e4
  have f0 : rB K n p 22 [rR x0] σ := by
    obtain ⟨w, e6, e7⟩ := m4 (353, [0]) (List.mem_of_getElem? (i := 0) rfl)
    obtain rfl : [rR x0] = w := Option.some.inj (show some [rR x0] = some w from e6)
    exact (rF_b (r := 353) (by decide) rfl).mp e7
  obtain ⟨hp, hR⟩ := ro_22.mp f0
  obtain rfl := rMg_u hM hR.1
  have uS : p.1.2.1 = x6.toInt := rRX_f hR.2.1 s0 t0
  have uR : p.1.2.2.1 = x3.toInt := rRX_f hR.2.2.1 s1 t1
  have f1 : rB K n p 111 [rI x3, rI x4, rI x5] σ := by
    obtain ⟨w, e6, e7⟩ := m4 (1779, [3, 4, 5]) (List.mem_of_getElem? (i := 1) rfl)
    obtain rfl : [rI x3, rI x4, rI x5] = w := Option.some.inj (show some [rI x3, rI x4, rI x5] = some w from e6)
    exact (rF_b (r := 1779) (by decide) rfl).mp e7
  have f1 : x5 = x3 &&& x4 := Sum.inl.inj (ro_111.mp f1)
  clear m1 m2 m3 m4
  have q0 : rB K n p 32 [rI x1, rI x2] σ := ro_32.mpr (by
    refine Or.inr ⟨by omega, fun h => (rHas_i (y := x4) uR (by rw [if_pos (by omega), if_pos (by omega)]; omega)).mp h.1 ?_⟩
    rw [← f1]
    exact Int32.toInt_inj.mp (by rw [show (0 : Int32).toInt = 0 from rfl]; omega))
  exact ⟨p, fun _ => rfl, ⟨(fun q h => by cases h), fun q h => (by cases h), (fun f h => by cases h), (aAllc ⟨_, rfl, (rF_b (r := 514) (by decide) rfl).mpr q0⟩ (fun f h => by cases h))⟩, [], List.mem_cons_self, fun f h => (by cases h)⟩
theorem rw_rvRGY10 {K : Nat → Nat} {n : Nat} {JX : (Nat → jcell) → Prop} : aGho (rF K n) fa_T K n JX ag_rvRGY10 := by
  refine aGho_of ⟨rfl, rfl⟩ ?_
  intro p σ ρ hH hX hA hM0
  have hG := aAG_of hA.1 (fun i e v he hv => (hA.2 i e v he hv).1)
  clear hA
  obtain ⟨v0, v1, v2, v3, v4, v5, rfl, g0, g1, g2, g3, g4, g5⟩ := rA_6 hG
  clear hG
  obtain ⟨x0, rfl, b0, d0⟩ := rG_ref (by decide) g0
  obtain ⟨x1, rfl, b1, d1⟩ := aG_int g1
  dsimp only at b1 d1
  obtain ⟨x2, rfl, b2, d2⟩ := aG_int g2
  dsimp only at b2 d2
  obtain ⟨x3, rfl, b3, d3⟩ := aG_int g3
  dsimp only at b3 d3
  obtain ⟨x4, rfl, b4, d4⟩ := aG_int g4
  dsimp only at b4 d4
  obtain ⟨x5, rfl, b5, d5⟩ := aG_int g5
  dsimp only at b5 d5
  obtain ⟨m1, m2, m3, m4⟩ := hM0
  obtain ⟨M, hM⟩ := rMe_ex hH b0 d0
  obtain ⟨a0, c0, fs0, w0, e1, s0, t0, e4⟩ := m1 (0, 3, 5) (List.mem_of_getElem? (i := 0) rfl)
  obtain rfl : x0 = a0 := Sum.inl.inj (Option.some.inj (Sum.inr.inj (Sum.inr.inj (Option.some.inj (show some (rR x0) = some _ from e1)))))
  obtain rfl : rI x5 = w0 := Option.some.inj (show some (rI x5) = some w0 from e4)
  clear e1 e4
  obtain ⟨a1, c1, fs1, w1, e1, s1, t1, e4⟩ := m1 (0, 4, 2) (List.mem_of_getElem? (i := 1) rfl)
  obtain rfl : x0 = a1 := Sum.inl.inj (Option.some.inj (Sum.inr.inj (Sum.inr.inj (Option.some.inj (show some (rR x0) = some _ from e1)))))
  obtain rfl : rI x2 = w1 := Option.some.inj (show some (rI x2) = some w1 from e4)
  clear e1 e4
  have f0 : rB K n p 22 [rR x0] σ := by
    obtain ⟨w, e6, e7⟩ := m4 (353, [0]) (List.mem_of_getElem? (i := 0) rfl)
    obtain rfl : [rR x0] = w := Option.some.inj (show some [rR x0] = some w from e6)
    exact (rF_b (r := 353) (by decide) rfl).mp e7
  obtain ⟨hp, hR⟩ := ro_22.mp f0
  obtain rfl := rMg_u hM hR.1
  have uS : p.1.2.1 = x5.toInt := rRX_f hR.2.1 s0 t0
  have uR : p.1.2.2.1 = x2.toInt := rRX_f hR.2.2.1 s1 t1
  have f1 : rB K n p 111 [rI x2, rI x3, rI x4] σ := by
    obtain ⟨w, e6, e7⟩ := m4 (1779, [2, 3, 4]) (List.mem_of_getElem? (i := 1) rfl)
    obtain rfl : [rI x2, rI x3, rI x4] = w := Option.some.inj (show some [rI x2, rI x3, rI x4] = some w from e6)
    exact (rF_b (r := 1779) (by decide) rfl).mp e7
  have f1 : x4 = x2 &&& x3 := Sum.inl.inj (ro_111.mp f1)
  clear m1 m2 m3 m4
  have q0 : rB K n p 45 [rI x1] σ := ro_45.mpr (by
    refine (rHas_i (y := x3) uR (by rw [if_pos (by omega), if_pos (by omega)]; omega)).mpr (fun e => ?_)
    have e2 : x4.toInt = 0 := by rw [f1, e]; rfl
    omega)
  exact ⟨p, fun _ => rfl, ⟨(fun q h => by cases h), fun q h => (by cases h), (fun f h => by cases h), (aAllc ⟨_, rfl, (rF_b (r := 721) (by decide) rfl).mpr q0⟩ (fun f h => by cases h))⟩, [], List.mem_cons_self, fun f h => (by cases h)⟩
theorem rw_rvEP010 {K : Nat → Nat} {n : Nat} {JX : (Nat → jcell) → Prop} : aGho (rF K n) fa_T K n JX ag_rvEP010 := by
  refine aGho_of ⟨rfl, rfl⟩ ?_
  intro p σ ρ hH hX hA hM0
  have hG := aAG_of hA.1 (fun i e v he hv => (hA.2 i e v he hv).1)
  clear hA
  obtain ⟨v0, v1, v2, v3, rfl, g0, g1, g2, g3⟩ := rA_4 hG
  clear hG
  obtain ⟨x0, rfl, b0, d0⟩ := rG_ref (by decide) g0
  obtain ⟨x1, rfl, b1, d1⟩ := aG_int g1
  dsimp only at b1 d1
  obtain ⟨x2, rfl, b2, d2⟩ := aG_int g2
  dsimp only at b2 d2
  obtain ⟨x3, rfl, b3, d3⟩ := aG_int g3
  dsimp only at b3 d3
  obtain ⟨m1, m2, m3, m4⟩ := hM0
  obtain ⟨M, hM⟩ := rMe_ex hH b0 d0
  obtain ⟨a0, c0, fs0, w0, e1, s0, t0, e4⟩ := m1 (0, 3, 3) (List.mem_of_getElem? (i := 0) rfl)
  obtain rfl : x0 = a0 := Sum.inl.inj (Option.some.inj (Sum.inr.inj (Sum.inr.inj (Option.some.inj (show some (rR x0) = some _ from e1)))))
  obtain rfl : rI x3 = w0 := Option.some.inj (show some (rI x3) = some w0 from e4)
  clear e1 e4
  have f0 : rB K n p 22 [rR x0] σ := by
    obtain ⟨w, e6, e7⟩ := m4 (353, [0]) (List.mem_of_getElem? (i := 0) rfl)
    obtain rfl : [rR x0] = w := Option.some.inj (show some [rR x0] = some w from e6)
    exact (rF_b (r := 353) (by decide) rfl).mp e7
  obtain ⟨hp, hR⟩ := ro_22.mp f0
  obtain rfl := rMg_u hM hR.1
  have uS : p.1.2.1 = x3.toInt := rRX_f hR.2.1 s0 t0
  clear m1 m2 m3 m4
  have q0 : rB K n p 33 [rI x1, rI x2] σ := ro_33.mpr (by
    intro j h1 h2
    rw [if_pos (by omega)] at h1
    omega)
  exact ⟨p, fun _ => rfl, ⟨(fun q h => by cases h), fun q h => (by cases h), (fun f h => by cases h), (aAllc ⟨_, rfl, (rF_b (r := 530) (by decide) rfl).mpr q0⟩ (fun f h => by cases h))⟩, [], List.mem_cons_self, fun f h => (by cases h)⟩
theorem rw_rvMCn10 {K : Nat → Nat} {n : Nat} {JX : (Nat → jcell) → Prop} : aGho (rF K n) fa_T K n JX ag_rvMCn10 := by
  refine aGho_of ⟨rfl, rfl⟩ ?_
  intro p σ ρ hH hX hA hM0
  have hG := aAG_of hA.1 (fun i e v he hv => (hA.2 i e v he hv).1)
  clear hA
  obtain ⟨v0, v1, v2, v3, v4, v5, v6, rfl, g0, g1, g2, g3, g4, g5, g6⟩ := rA_7 hG
  clear hG
  obtain ⟨x0, rfl, b0, d0⟩ := rG_ref (by decide) g0
  obtain ⟨x1, rfl, b1, d1⟩ := aG_int g1
  dsimp only at b1 d1
  obtain ⟨x2, rfl, b2, d2⟩ := aG_int g2
  dsimp only at b2 d2
  obtain ⟨x3, rfl, b3, d3⟩ := aG_int g3
  dsimp only at b3 d3
  obtain ⟨x4, rfl, b4, d4⟩ := aG_int g4
  dsimp only at b4 d4
  obtain ⟨x5, rfl, b5, d5⟩ := rG_ref (by decide) g5
  obtain ⟨x6, rfl, b6, d6⟩ := aG_int g6
  dsimp only at b6 d6
  obtain ⟨m1, m2, m3, m4⟩ := hM0
  obtain ⟨M, hM⟩ := rMe_ex hH b0 d0
  obtain ⟨a0, c0, fs0, w0, e1, s0, t0, e4⟩ := m1 (0, 2, 5) (List.mem_of_getElem? (i := 0) rfl)
  obtain rfl : x0 = a0 := Sum.inl.inj (Option.some.inj (Sum.inr.inj (Sum.inr.inj (Option.some.inj (show some (rR x0) = some _ from e1)))))
  obtain rfl : rR x5 = w0 := Option.some.inj (show some (rR x5) = some w0 from e4)
  clear e1 e4
  obtain ⟨a1, c1, fs1, w1, e1, s1, t1, e4⟩ := m1 (0, 3, 6) (List.mem_of_getElem? (i := 1) rfl)
  obtain rfl : x0 = a1 := Sum.inl.inj (Option.some.inj (Sum.inr.inj (Sum.inr.inj (Option.some.inj (show some (rR x0) = some _ from e1)))))
  obtain rfl : rI x6 = w1 := Option.some.inj (show some (rI x6) = some w1 from e4)
  clear e1 e4
  obtain ⟨a, mc0, ty0, gc0, ic0, e1, sc0, jc0, e4, e5⟩ := m2 (5, ([(3, 1)], 0), 4) (List.mem_of_getElem? (i := 0) rfl)
  obtain rfl : x5 = a := Sum.inl.inj (Option.some.inj (Sum.inr.inj (Sum.inr.inj (Option.some.inj (show some (rR x5) = some _ from e1)))))
  obtain ⟨gc0, rfl⟩ : ∃ g, gc0 = .inl g := by
    rcases gc0 with g | g
    · exact ⟨g, rfl⟩
    · exact absurd (show some (rI x4) = some (.inr (.inl (g ic0))) from e5) (fun h => by cases h)
  have sc0 : σ x5 = .inl (ty0, mc0, .inl gc0) := sc0
  have ec0 : x4 = gc0 ic0 := Sum.inl.inj (Option.some.inj (show some (rI x4) = some _ from e5))
  have kc0 : (ic0 : Int) = (1 * x3.toInt + 0) + 0 := by
    obtain ⟨z, e6, e7⟩ := e4
    obtain rfl : (1 * x3.toInt + 0) = z := Option.some.inj (show some (1 * x3.toInt + 0) = some z from e6)
    exact e7
  clear e1 e4 e5
  have l0 : 0 ≤ (1 * x3.toInt + 0) + -5 := by
    obtain ⟨z, e6, e7⟩ := m3 ([(3, 1)], -5) (List.mem_of_getElem? (i := 0) rfl)
    obtain rfl : (1 * x3.toInt + 0) = z := Option.some.inj (show some (1 * x3.toInt + 0) = some z from e6)
    exact e7
  have l1 : 0 ≤ (-1 * x3.toInt + 0) + 6 := by
    obtain ⟨z, e6, e7⟩ := m3 ([(3, -1)], 6) (List.mem_of_getElem? (i := 1) rfl)
    obtain rfl : (-1 * x3.toInt + 0) = z := Option.some.inj (show some (-1 * x3.toInt + 0) = some z from e6)
    exact e7
  have y0 : M x3.toInt = x4.toInt := rMg_c hM s0 t0 sc0 (by omega) (by omega) (by omega) ec0
  have f0 : rB K n p 22 [rR x0] σ := by
    obtain ⟨w, e6, e7⟩ := m4 (353, [0]) (List.mem_of_getElem? (i := 0) rfl)
    obtain rfl : [rR x0] = w := Option.some.inj (show some [rR x0] = some w from e6)
    exact (rF_b (r := 353) (by decide) rfl).mp e7
  obtain ⟨hp, hR⟩ := ro_22.mp f0
  obtain rfl := rMg_u hM hR.1
  have uS : p.1.2.1 = x6.toInt := rRX_f hR.2.1 s1 t1
  clear m1 m2 m3 m4
  have q0 : rB K n p 32 [rI x1, rI x2] σ := ro_32.mpr (by
    refine Or.inr ⟨by omega, fun h => ?_⟩
    have h1 := h.2.1 x3.toInt (by rw [if_pos (by omega)]; omega) (by rw [if_pos (by omega)]; omega)
    omega)
  exact ⟨p, fun _ => rfl, ⟨(fun q h => by cases h), fun q h => (by cases h), (fun f h => by cases h), (aAllc ⟨_, rfl, (rF_b (r := 514) (by decide) rfl).mpr q0⟩ (fun f h => by cases h))⟩, [], List.mem_cons_self, fun f h => (by cases h)⟩
theorem rw_rvMCc10 {K : Nat → Nat} {n : Nat} {JX : (Nat → jcell) → Prop} : aGho (rF K n) fa_T K n JX ag_rvMCc10 := by
  refine aGho_of ⟨rfl, rfl⟩ ?_
  intro p σ ρ hH hX hA hM0
  have hG := aAG_of hA.1 (fun i e v he hv => (hA.2 i e v he hv).1)
  clear hA
  obtain ⟨v0, v1, v2, v3, v4, v5, rfl, g0, g1, g2, g3, g4, g5⟩ := rA_6 hG
  clear hG
  obtain ⟨x0, rfl, b0, d0⟩ := rG_ref (by decide) g0
  obtain ⟨x1, rfl, b1, d1⟩ := aG_int g1
  dsimp only at b1 d1
  obtain ⟨x2, rfl, b2, d2⟩ := aG_int g2
  dsimp only at b2 d2
  obtain ⟨x3, rfl, b3, d3⟩ := aG_int g3
  dsimp only at b3 d3
  obtain ⟨x4, rfl, b4, d4⟩ := aG_int g4
  dsimp only at b4 d4
  obtain ⟨x5, rfl, b5, d5⟩ := aG_int g5
  dsimp only at b5 d5
  obtain ⟨m1, m2, m3, m4⟩ := hM0
  obtain ⟨M, hM⟩ := rMe_ex hH b0 d0
  obtain ⟨a0, c0, fs0, w0, e1, s0, t0, e4⟩ := m1 (0, 3, 5) (List.mem_of_getElem? (i := 0) rfl)
  obtain rfl : x0 = a0 := Sum.inl.inj (Option.some.inj (Sum.inr.inj (Sum.inr.inj (Option.some.inj (show some (rR x0) = some _ from e1)))))
  obtain rfl : rI x5 = w0 := Option.some.inj (show some (rI x5) = some w0 from e4)
  clear e1 e4
  have f0 : rB K n p 22 [rR x0] σ := by
    obtain ⟨w, e6, e7⟩ := m4 (353, [0]) (List.mem_of_getElem? (i := 0) rfl)
    obtain rfl : [rR x0] = w := Option.some.inj (show some [rR x0] = some w from e6)
    exact (rF_b (r := 353) (by decide) rfl).mp e7
  obtain ⟨hp, hR⟩ := ro_22.mp f0
  obtain rfl := rMg_u hM hR.1
  have uS : p.1.2.1 = x5.toInt := rRX_f hR.2.1 s0 t0
  have f1 : rB K n p 140 [rR x0, rI x3, rI x4] σ := by
    obtain ⟨w, e6, e7⟩ := m4 (2243, [0, 3, 4]) (List.mem_of_getElem? (i := 1) rfl)
    obtain rfl : [rR x0, rI x3, rI x4] = w := Option.some.inj (show some [rR x0, rI x3, rI x4] = some w from e6)
    exact (rF_b (r := 2243) (by decide) rfl).mp e7
  obtain ⟨M9, h9, f1⟩ := ro_140.mp f1
  obtain rfl := rMg_u hM h9
  clear h9
  clear m1 m2 m3 m4
  have q0 : rB K n p 32 [rI x1, rI x2] σ := ro_32.mpr (by
    obtain ⟨s, h1, h2⟩ := f1
    refine Or.inr ⟨by omega, fun h => h.2.2.1 ⟨s, ?_, ?_⟩⟩
    · rw [show p.1.2.1 = x3.toInt by omega]; exact h1
    · rw [show p.1.2.1 = x3.toInt by omega]
      rcases h2 with h2 | h2
      · exact h2.2
      · have := h2.1; omega)
  exact ⟨p, fun _ => rfl, ⟨(fun q h => by cases h), fun q h => (by cases h), (fun f h => by cases h), (aAllc ⟨_, rfl, (rF_b (r := 514) (by decide) rfl).mpr q0⟩ (fun f h => by cases h))⟩, [], List.mem_cons_self, fun f h => (by cases h)⟩
theorem rw_rvMCa10 {K : Nat → Nat} {n : Nat} {JX : (Nat → jcell) → Prop} : aGho (rF K n) fa_T K n JX ag_rvMCa10 := by
  refine aGho_of ⟨rfl, rfl⟩ ?_
  intro p σ ρ hH hX hA hM0
  have hG := aAG_of hA.1 (fun i e v he hv => (hA.2 i e v he hv).1)
  clear hA
  obtain ⟨v0, v1, v2, v3, v4, v5, v6, rfl, g0, g1, g2, g3, g4, g5, g6⟩ := rA_7 hG
  clear hG
  obtain ⟨x0, rfl, b0, d0⟩ := rG_ref (by decide) g0
  obtain ⟨x1, rfl, b1, d1⟩ := aG_int g1
  dsimp only at b1 d1
  obtain ⟨x2, rfl, b2, d2⟩ := aG_int g2
  dsimp only at b2 d2
  obtain ⟨x3, rfl, b3, d3⟩ := aG_int g3
  dsimp only at b3 d3
  obtain ⟨x4, rfl, b4, d4⟩ := aG_int g4
  dsimp only at b4 d4
  obtain ⟨x5, rfl, b5, d5⟩ := aG_int g5
  dsimp only at b5 d5
  obtain ⟨x6, rfl, b6, d6⟩ := aG_int g6
  dsimp only at b6 d6
  obtain ⟨m1, m2, m3, m4⟩ := hM0
  obtain ⟨M, hM⟩ := rMe_ex hH b0 d0
  obtain ⟨a0, c0, fs0, w0, e1, s0, t0, e4⟩ := m1 (0, 3, 6) (List.mem_of_getElem? (i := 0) rfl)
  obtain rfl : x0 = a0 := Sum.inl.inj (Option.some.inj (Sum.inr.inj (Sum.inr.inj (Option.some.inj (show some (rR x0) = some _ from e1)))))
  obtain rfl : rI x6 = w0 := Option.some.inj (show some (rI x6) = some w0 from e4)
  clear e1 e4
  have f0 : rB K n p 22 [rR x0] σ := by
    obtain ⟨w, e6, e7⟩ := m4 (353, [0]) (List.mem_of_getElem? (i := 0) rfl)
    obtain rfl : [rR x0] = w := Option.some.inj (show some [rR x0] = some w from e6)
    exact (rF_b (r := 353) (by decide) rfl).mp e7
  obtain ⟨hp, hR⟩ := ro_22.mp f0
  obtain rfl := rMg_u hM hR.1
  have uS : p.1.2.1 = x6.toInt := rRX_f hR.2.1 s0 t0
  have f1 : rB K n p 132 [rR x0, rI x3, rI x4, rI x5] σ := by
    obtain ⟨w, e6, e7⟩ := m4 (2116, [0, 3, 4, 5]) (List.mem_of_getElem? (i := 1) rfl)
    obtain rfl : [rR x0, rI x3, rI x4, rI x5] = w := Option.some.inj (show some [rR x0, rI x3, rI x4, rI x5] = some w from e6)
    exact (rF_b (r := 2116) (by decide) rfl).mp e7
  obtain ⟨M9, h9, f1⟩ := ro_132.mp f1
  obtain rfl := rMg_u hM h9
  clear h9
  clear m1 m2 m3 m4
  have q0 : rB K n p 32 [rI x1, rI x2] σ := ro_32.mpr (by
    refine Or.inr ⟨by omega, fun h => h.2.2.2 ?_⟩
    rw [show 56 * p.1.2.1 + (if x1.toInt = 1 then 5 else 3) = x3.toInt by rw [if_pos (by omega)]; omega, show 1 - p.1.2.1 = x4.toInt by omega]
    rcases f1 with h1 | h1
    · exact h1.2
    · have := h1.1; omega)
  exact ⟨p, fun _ => rfl, ⟨(fun q h => by cases h), fun q h => (by cases h), (fun f h => by cases h), (aAllc ⟨_, rfl, (rF_b (r := 514) (by decide) rfl).mpr q0⟩ (fun f h => by cases h))⟩, [], List.mem_cons_self, fun f h => (by cases h)⟩
theorem rw_rvMCy10 {K : Nat → Nat} {n : Nat} {JX : (Nat → jcell) → Prop} : aGho (rF K n) fa_T K n JX ag_rvMCy10 := by
  refine aGho_of ⟨rfl, rfl⟩ ?_
  intro p σ ρ hH hX hA hM0
  have hG := aAG_of hA.1 (fun i e v he hv => (hA.2 i e v he hv).1)
  clear hA
  obtain ⟨v0, v1, v2, v3, v4, v5, v6, v7, v8, v9, rfl, g0, g1, g2, g3, g4, g5, g6, g7, g8, g9⟩ := rA_10 hG
  clear hG
  obtain ⟨x0, rfl, b0, d0⟩ := rG_ref (by decide) g0
  obtain ⟨x1, rfl, b1, d1⟩ := aG_int g1
  dsimp only at b1 d1
  obtain ⟨x2, rfl, b2, d2⟩ := aG_int g2
  dsimp only at b2 d2
  obtain ⟨x3, rfl, b3, d3⟩ := aG_int g3
  dsimp only at b3 d3
  obtain ⟨x4, rfl, b4, d4⟩ := aG_int g4
  dsimp only at b4 d4
  obtain ⟨x5, rfl, b5, d5⟩ := aG_int g5
  dsimp only at b5 d5
  obtain ⟨x6, rfl, b6, d6⟩ := aG_int g6
  dsimp only at b6 d6
  obtain ⟨x7, rfl, b7, d7⟩ := aG_int g7
  dsimp only at b7 d7
  obtain ⟨x8, rfl, b8, d8⟩ := aG_int g8
  dsimp only at b8 d8
  obtain ⟨x9, rfl, b9, d9⟩ := aG_int g9
  dsimp only at b9 d9
  obtain ⟨m1, m2, m3, m4⟩ := hM0
  obtain ⟨M, hM⟩ := rMe_ex hH b0 d0
  obtain ⟨a0, c0, fs0, w0, e1, s0, t0, e4⟩ := m1 (0, 3, 9) (List.mem_of_getElem? (i := 0) rfl)
  obtain rfl : x0 = a0 := Sum.inl.inj (Option.some.inj (Sum.inr.inj (Sum.inr.inj (Option.some.inj (show some (rR x0) = some _ from e1)))))
  obtain rfl : rI x9 = w0 := Option.some.inj (show some (rI x9) = some w0 from e4)
  clear e1 e4
  have f0 : rB K n p 22 [rR x0] σ := by
    obtain ⟨w, e6, e7⟩ := m4 (353, [0]) (List.mem_of_getElem? (i := 0) rfl)
    obtain rfl : [rR x0] = w := Option.some.inj (show some [rR x0] = some w from e6)
    exact (rF_b (r := 353) (by decide) rfl).mp e7
  obtain ⟨hp, hR⟩ := ro_22.mp f0
  obtain rfl := rMg_u hM hR.1
  have uS : p.1.2.1 = x9.toInt := rRX_f hR.2.1 s0 t0
  have f1 : rB K n p 45 [rI x1] σ := by
    obtain ⟨w, e6, e7⟩ := m4 (721, [1]) (List.mem_of_getElem? (i := 1) rfl)
    obtain rfl : [rI x1] = w := Option.some.inj (show some [rI x1] = some w from e6)
    exact (rF_b (r := 721) (by decide) rfl).mp e7
  have f1 := ro_45.mp f1
  have f2 : rB K n p 33 [rI x1, rI x3] σ := by
    obtain ⟨w, e6, e7⟩ := m4 (530, [1, 3]) (List.mem_of_getElem? (i := 2) rfl)
    obtain rfl : [rI x1, rI x3] = w := Option.some.inj (show some [rI x1, rI x3] = some w from e6)
    exact (rF_b (r := 530) (by decide) rfl).mp e7
  have f2 := ro_33.mp f2
  have f3 : rB K n p 140 [rR x0, rI x4, rI x5] σ := by
    obtain ⟨w, e6, e7⟩ := m4 (2243, [0, 4, 5]) (List.mem_of_getElem? (i := 3) rfl)
    obtain rfl : [rR x0, rI x4, rI x5] = w := Option.some.inj (show some [rR x0, rI x4, rI x5] = some w from e6)
    exact (rF_b (r := 2243) (by decide) rfl).mp e7
  obtain ⟨M9, h9, f3⟩ := ro_140.mp f3
  obtain rfl := rMg_u hM h9
  clear h9
  have f4 : rB K n p 132 [rR x0, rI x6, rI x7, rI x8] σ := by
    obtain ⟨w, e6, e7⟩ := m4 (2116, [0, 6, 7, 8]) (List.mem_of_getElem? (i := 4) rfl)
    obtain rfl : [rR x0, rI x6, rI x7, rI x8] = w := Option.some.inj (show some [rR x0, rI x6, rI x7, rI x8] = some w from e6)
    exact (rF_b (r := 2116) (by decide) rfl).mp e7
  obtain ⟨M9, h9, f4⟩ := ro_132.mp f4
  obtain rfl := rMg_u hM h9
  clear h9
  clear m1 m2 m3 m4
  have q0 : rB K n p 32 [rI x1, rI x2] σ := ro_32.mpr (by
    refine Or.inl ⟨by omega, f1, fun j h1 h2 => f2 j h1 (by rw [if_pos (by omega)] at h2; omega), ?_, ?_⟩
    · rintro ⟨s, h1, h2⟩
      obtain ⟨s', h3, h4⟩ := f3
      rw [show p.1.2.1 = x4.toInt by omega] at h1 h2
      obtain rfl := rKg_u h1 h3
      rcases h4 with h4 | h4
      · have := h4.1; omega
      · exact h4.2 h2
    · rw [show 56 * p.1.2.1 + (if x1.toInt = 1 then 5 else 3) = x6.toInt by rw [if_pos (by omega)]; omega, show 1 - p.1.2.1 = x7.toInt by omega]
      rcases f4 with h1 | h1
      · have := h1.1; omega
      · exact h1.2)
  exact ⟨p, fun _ => rfl, ⟨(fun q h => by cases h), fun q h => (by cases h), (fun f h => by cases h), (aAllc ⟨_, rfl, (rF_b (r := 514) (by decide) rfl).mpr q0⟩ (fun f h => by cases h))⟩, [], List.mem_cons_self, fun f h => (by cases h)⟩
theorem rw_rvMCr11 {K : Nat → Nat} {n : Nat} {JX : (Nat → jcell) → Prop} : aGho (rF K n) fa_T K n JX ag_rvMCr11 := by
  refine aGho_of ⟨rfl, rfl⟩ ?_
  intro p σ ρ hH hX hA hM0
  have hG := aAG_of hA.1 (fun i e v he hv => (hA.2 i e v he hv).1)
  clear hA
  obtain ⟨v0, v1, v2, v3, v4, v5, v6, rfl, g0, g1, g2, g3, g4, g5, g6⟩ := rA_7 hG
  clear hG
  obtain ⟨x0, rfl, b0, d0⟩ := rG_ref (by decide) g0
  obtain ⟨x1, rfl, b1, d1⟩ := aG_int g1
  dsimp only at b1 d1
  obtain ⟨x2, rfl, b2, d2⟩ := aG_int g2
  dsimp only at b2 d2
  obtain ⟨x3, rfl, b3, d3⟩ := aG_int g3
  dsimp only at b3 d3
  obtain ⟨x4, rfl, b4, d4⟩ := aG_int g4
  dsimp only at b4 d4
  obtain ⟨x5, rfl, b5, d5⟩ := aG_int g5
  dsimp only at b5 d5
  obtain ⟨x6, rfl, b6, d6⟩ := aG_int g6
  dsimp only at b6 d6
  obtain ⟨m1, m2, m3, m4⟩ := hM0
  obtain ⟨M, hM⟩ := rMe_ex hH b0 d0
  obtain ⟨a0, c0, fs0, w0, e1, s0, t0, e4⟩ := m1 (0, 3, 6) (List.mem_of_getElem? (i := 0) rfl)
  obtain rfl : x0 = a0 := Sum.inl.inj (Option.some.inj (Sum.inr.inj (Sum.inr.inj (Option.some.inj (show some (rR x0) = some _ from e1)))))
  obtain rfl : rI x6 = w0 := Option.some.inj (show some (rI x6) = some w0 from e4)
  clear e1 e4
  obtain ⟨a1, c1, fs1, w1, e1, s1, t1, e4⟩ := m1 (0, 4, 3) (List.mem_of_getElem? (i := 1) rfl)
  obtain rfl : x0 = a1 := Sum.inl.inj (Option.some.inj (Sum.inr.inj (Sum.inr.inj (Option.some.inj (show some (rR x0) = some _ from e1)))))
  obtain rfl : rI x3 = w1 := Option.some.inj (show some (rI x3) = some w1 from e4)
  clear e1 e4
  have f0 : rB K n p 22 [rR x0] σ := by
    obtain ⟨w, e6, e7⟩ := m4 (353, [0]) (List.mem_of_getElem? (i := 0) rfl)
    obtain rfl : [rR x0] = w := Option.some.inj (show some [rR x0] = some w from e6)
    exact (rF_b (r := 353) (by decide) rfl).mp e7
  obtain ⟨hp, hR⟩ := ro_22.mp f0
  obtain rfl := rMg_u hM hR.1
  have uS : p.1.2.1 = x6.toInt := rRX_f hR.2.1 s0 t0
  have uR : p.1.2.2.1 = x3.toInt := rRX_f hR.2.2.1 s1 t1
  have f1 : rB K n p 111 [rI x3, rI x4, rI x5] σ := by
    obtain ⟨w, e6, e7⟩ := m4 (1779, [3, 4, 5]) (List.mem_of_getElem? (i := 1) rfl)
    obtain rfl : [rI x3, rI x4, rI x5] = w := Option.some.inj (show some [rI x3, rI x4, rI x5] = some w from e6)
    exact (rF_b (r := 1779) (by decide) rfl).mp e7
  have f1 : x5 = x3 &&& x4 := Sum.inl.inj (ro_111.mp f1)
  clear m1 m2 m3 m4
  have q0 : rB K n p 32 [rI x1, rI x2] σ := ro_32.mpr (by
    refine Or.inr ⟨by omega, fun h => (rHas_i (y := x4) uR (by rw [if_pos (by omega), if_neg (by omega)]; omega)).mp h.1 ?_⟩
    rw [← f1]
    exact Int32.toInt_inj.mp (by rw [show (0 : Int32).toInt = 0 from rfl]; omega))
  exact ⟨p, fun _ => rfl, ⟨(fun q h => by cases h), fun q h => (by cases h), (fun f h => by cases h), (aAllc ⟨_, rfl, (rF_b (r := 514) (by decide) rfl).mpr q0⟩ (fun f h => by cases h))⟩, [], List.mem_cons_self, fun f h => (by cases h)⟩
theorem rw_rvRGY11 {K : Nat → Nat} {n : Nat} {JX : (Nat → jcell) → Prop} : aGho (rF K n) fa_T K n JX ag_rvRGY11 := by
  refine aGho_of ⟨rfl, rfl⟩ ?_
  intro p σ ρ hH hX hA hM0
  have hG := aAG_of hA.1 (fun i e v he hv => (hA.2 i e v he hv).1)
  clear hA
  obtain ⟨v0, v1, v2, v3, v4, v5, rfl, g0, g1, g2, g3, g4, g5⟩ := rA_6 hG
  clear hG
  obtain ⟨x0, rfl, b0, d0⟩ := rG_ref (by decide) g0
  obtain ⟨x1, rfl, b1, d1⟩ := aG_int g1
  dsimp only at b1 d1
  obtain ⟨x2, rfl, b2, d2⟩ := aG_int g2
  dsimp only at b2 d2
  obtain ⟨x3, rfl, b3, d3⟩ := aG_int g3
  dsimp only at b3 d3
  obtain ⟨x4, rfl, b4, d4⟩ := aG_int g4
  dsimp only at b4 d4
  obtain ⟨x5, rfl, b5, d5⟩ := aG_int g5
  dsimp only at b5 d5
  obtain ⟨m1, m2, m3, m4⟩ := hM0
  obtain ⟨M, hM⟩ := rMe_ex hH b0 d0
  obtain ⟨a0, c0, fs0, w0, e1, s0, t0, e4⟩ := m1 (0, 3, 5) (List.mem_of_getElem? (i := 0) rfl)
  obtain rfl : x0 = a0 := Sum.inl.inj (Option.some.inj (Sum.inr.inj (Sum.inr.inj (Option.some.inj (show some (rR x0) = some _ from e1)))))
  obtain rfl : rI x5 = w0 := Option.some.inj (show some (rI x5) = some w0 from e4)
  clear e1 e4
  obtain ⟨a1, c1, fs1, w1, e1, s1, t1, e4⟩ := m1 (0, 4, 2) (List.mem_of_getElem? (i := 1) rfl)
  obtain rfl : x0 = a1 := Sum.inl.inj (Option.some.inj (Sum.inr.inj (Sum.inr.inj (Option.some.inj (show some (rR x0) = some _ from e1)))))
  obtain rfl : rI x2 = w1 := Option.some.inj (show some (rI x2) = some w1 from e4)
  clear e1 e4
  have f0 : rB K n p 22 [rR x0] σ := by
    obtain ⟨w, e6, e7⟩ := m4 (353, [0]) (List.mem_of_getElem? (i := 0) rfl)
    obtain rfl : [rR x0] = w := Option.some.inj (show some [rR x0] = some w from e6)
    exact (rF_b (r := 353) (by decide) rfl).mp e7
  obtain ⟨hp, hR⟩ := ro_22.mp f0
  obtain rfl := rMg_u hM hR.1
  have uS : p.1.2.1 = x5.toInt := rRX_f hR.2.1 s0 t0
  have uR : p.1.2.2.1 = x2.toInt := rRX_f hR.2.2.1 s1 t1
  have f1 : rB K n p 111 [rI x2, rI x3, rI x4] σ := by
    obtain ⟨w, e6, e7⟩ := m4 (1779, [2, 3, 4]) (List.mem_of_getElem? (i := 1) rfl)
    obtain rfl : [rI x2, rI x3, rI x4] = w := Option.some.inj (show some [rI x2, rI x3, rI x4] = some w from e6)
    exact (rF_b (r := 1779) (by decide) rfl).mp e7
  have f1 : x4 = x2 &&& x3 := Sum.inl.inj (ro_111.mp f1)
  clear m1 m2 m3 m4
  have q0 : rB K n p 45 [rI x1] σ := ro_45.mpr (by
    refine (rHas_i (y := x3) uR (by rw [if_pos (by omega), if_neg (by omega)]; omega)).mpr (fun e => ?_)
    have e2 : x4.toInt = 0 := by rw [f1, e]; rfl
    omega)
  exact ⟨p, fun _ => rfl, ⟨(fun q h => by cases h), fun q h => (by cases h), (fun f h => by cases h), (aAllc ⟨_, rfl, (rF_b (r := 721) (by decide) rfl).mpr q0⟩ (fun f h => by cases h))⟩, [], List.mem_cons_self, fun f h => (by cases h)⟩
theorem rw_rvEP011 {K : Nat → Nat} {n : Nat} {JX : (Nat → jcell) → Prop} : aGho (rF K n) fa_T K n JX ag_rvEP011 := by
  refine aGho_of ⟨rfl, rfl⟩ ?_
  intro p σ ρ hH hX hA hM0
  have hG := aAG_of hA.1 (fun i e v he hv => (hA.2 i e v he hv).1)
  clear hA
  obtain ⟨v0, v1, v2, v3, rfl, g0, g1, g2, g3⟩ := rA_4 hG
  clear hG
  obtain ⟨x0, rfl, b0, d0⟩ := rG_ref (by decide) g0
  obtain ⟨x1, rfl, b1, d1⟩ := aG_int g1
  dsimp only at b1 d1
  obtain ⟨x2, rfl, b2, d2⟩ := aG_int g2
  dsimp only at b2 d2
  obtain ⟨x3, rfl, b3, d3⟩ := aG_int g3
  dsimp only at b3 d3
  obtain ⟨m1, m2, m3, m4⟩ := hM0
  obtain ⟨M, hM⟩ := rMe_ex hH b0 d0
  obtain ⟨a0, c0, fs0, w0, e1, s0, t0, e4⟩ := m1 (0, 3, 3) (List.mem_of_getElem? (i := 0) rfl)
  obtain rfl : x0 = a0 := Sum.inl.inj (Option.some.inj (Sum.inr.inj (Sum.inr.inj (Option.some.inj (show some (rR x0) = some _ from e1)))))
  obtain rfl : rI x3 = w0 := Option.some.inj (show some (rI x3) = some w0 from e4)
  clear e1 e4
  have f0 : rB K n p 22 [rR x0] σ := by
    obtain ⟨w, e6, e7⟩ := m4 (353, [0]) (List.mem_of_getElem? (i := 0) rfl)
    obtain rfl : [rR x0] = w := Option.some.inj (show some [rR x0] = some w from e6)
    exact (rF_b (r := 353) (by decide) rfl).mp e7
  obtain ⟨hp, hR⟩ := ro_22.mp f0
  obtain rfl := rMg_u hM hR.1
  have uS : p.1.2.1 = x3.toInt := rRX_f hR.2.1 s0 t0
  clear m1 m2 m3 m4
  have q0 : rB K n p 33 [rI x1, rI x2] σ := ro_33.mpr (by
    intro j h1 h2
    rw [if_pos (by omega)] at h1
    omega)
  exact ⟨p, fun _ => rfl, ⟨(fun q h => by cases h), fun q h => (by cases h), (fun f h => by cases h), (aAllc ⟨_, rfl, (rF_b (r := 530) (by decide) rfl).mpr q0⟩ (fun f h => by cases h))⟩, [], List.mem_cons_self, fun f h => (by cases h)⟩
theorem rw_rvMCn11 {K : Nat → Nat} {n : Nat} {JX : (Nat → jcell) → Prop} : aGho (rF K n) fa_T K n JX ag_rvMCn11 := by
  refine aGho_of ⟨rfl, rfl⟩ ?_
  intro p σ ρ hH hX hA hM0
  have hG := aAG_of hA.1 (fun i e v he hv => (hA.2 i e v he hv).1)
  clear hA
  obtain ⟨v0, v1, v2, v3, v4, v5, v6, rfl, g0, g1, g2, g3, g4, g5, g6⟩ := rA_7 hG
  clear hG
  obtain ⟨x0, rfl, b0, d0⟩ := rG_ref (by decide) g0
  obtain ⟨x1, rfl, b1, d1⟩ := aG_int g1
  dsimp only at b1 d1
  obtain ⟨x2, rfl, b2, d2⟩ := aG_int g2
  dsimp only at b2 d2
  obtain ⟨x3, rfl, b3, d3⟩ := aG_int g3
  dsimp only at b3 d3
  obtain ⟨x4, rfl, b4, d4⟩ := aG_int g4
  dsimp only at b4 d4
  obtain ⟨x5, rfl, b5, d5⟩ := rG_ref (by decide) g5
  obtain ⟨x6, rfl, b6, d6⟩ := aG_int g6
  dsimp only at b6 d6
  obtain ⟨m1, m2, m3, m4⟩ := hM0
  obtain ⟨M, hM⟩ := rMe_ex hH b0 d0
  obtain ⟨a0, c0, fs0, w0, e1, s0, t0, e4⟩ := m1 (0, 2, 5) (List.mem_of_getElem? (i := 0) rfl)
  obtain rfl : x0 = a0 := Sum.inl.inj (Option.some.inj (Sum.inr.inj (Sum.inr.inj (Option.some.inj (show some (rR x0) = some _ from e1)))))
  obtain rfl : rR x5 = w0 := Option.some.inj (show some (rR x5) = some w0 from e4)
  clear e1 e4
  obtain ⟨a1, c1, fs1, w1, e1, s1, t1, e4⟩ := m1 (0, 3, 6) (List.mem_of_getElem? (i := 1) rfl)
  obtain rfl : x0 = a1 := Sum.inl.inj (Option.some.inj (Sum.inr.inj (Sum.inr.inj (Option.some.inj (show some (rR x0) = some _ from e1)))))
  obtain rfl : rI x6 = w1 := Option.some.inj (show some (rI x6) = some w1 from e4)
  clear e1 e4
  obtain ⟨a, mc0, ty0, gc0, ic0, e1, sc0, jc0, e4, e5⟩ := m2 (5, ([(3, 1)], 0), 4) (List.mem_of_getElem? (i := 0) rfl)
  obtain rfl : x5 = a := Sum.inl.inj (Option.some.inj (Sum.inr.inj (Sum.inr.inj (Option.some.inj (show some (rR x5) = some _ from e1)))))
  obtain ⟨gc0, rfl⟩ : ∃ g, gc0 = .inl g := by
    rcases gc0 with g | g
    · exact ⟨g, rfl⟩
    · exact absurd (show some (rI x4) = some (.inr (.inl (g ic0))) from e5) (fun h => by cases h)
  have sc0 : σ x5 = .inl (ty0, mc0, .inl gc0) := sc0
  have ec0 : x4 = gc0 ic0 := Sum.inl.inj (Option.some.inj (show some (rI x4) = some _ from e5))
  have kc0 : (ic0 : Int) = (1 * x3.toInt + 0) + 0 := by
    obtain ⟨z, e6, e7⟩ := e4
    obtain rfl : (1 * x3.toInt + 0) = z := Option.some.inj (show some (1 * x3.toInt + 0) = some z from e6)
    exact e7
  clear e1 e4 e5
  have l0 : 0 ≤ (1 * x3.toInt + 0) + -61 := by
    obtain ⟨z, e6, e7⟩ := m3 ([(3, 1)], -61) (List.mem_of_getElem? (i := 0) rfl)
    obtain rfl : (1 * x3.toInt + 0) = z := Option.some.inj (show some (1 * x3.toInt + 0) = some z from e6)
    exact e7
  have l1 : 0 ≤ (-1 * x3.toInt + 0) + 62 := by
    obtain ⟨z, e6, e7⟩ := m3 ([(3, -1)], 62) (List.mem_of_getElem? (i := 1) rfl)
    obtain rfl : (-1 * x3.toInt + 0) = z := Option.some.inj (show some (-1 * x3.toInt + 0) = some z from e6)
    exact e7
  have y0 : M x3.toInt = x4.toInt := rMg_c hM s0 t0 sc0 (by omega) (by omega) (by omega) ec0
  have f0 : rB K n p 22 [rR x0] σ := by
    obtain ⟨w, e6, e7⟩ := m4 (353, [0]) (List.mem_of_getElem? (i := 0) rfl)
    obtain rfl : [rR x0] = w := Option.some.inj (show some [rR x0] = some w from e6)
    exact (rF_b (r := 353) (by decide) rfl).mp e7
  obtain ⟨hp, hR⟩ := ro_22.mp f0
  obtain rfl := rMg_u hM hR.1
  have uS : p.1.2.1 = x6.toInt := rRX_f hR.2.1 s1 t1
  clear m1 m2 m3 m4
  have q0 : rB K n p 32 [rI x1, rI x2] σ := ro_32.mpr (by
    refine Or.inr ⟨by omega, fun h => ?_⟩
    have h1 := h.2.1 x3.toInt (by rw [if_pos (by omega)]; omega) (by rw [if_pos (by omega)]; omega)
    omega)
  exact ⟨p, fun _ => rfl, ⟨(fun q h => by cases h), fun q h => (by cases h), (fun f h => by cases h), (aAllc ⟨_, rfl, (rF_b (r := 514) (by decide) rfl).mpr q0⟩ (fun f h => by cases h))⟩, [], List.mem_cons_self, fun f h => (by cases h)⟩
theorem rw_rvMCc11 {K : Nat → Nat} {n : Nat} {JX : (Nat → jcell) → Prop} : aGho (rF K n) fa_T K n JX ag_rvMCc11 := by
  refine aGho_of ⟨rfl, rfl⟩ ?_
  intro p σ ρ hH hX hA hM0
  have hG := aAG_of hA.1 (fun i e v he hv => (hA.2 i e v he hv).1)
  clear hA
  obtain ⟨v0, v1, v2, v3, v4, v5, rfl, g0, g1, g2, g3, g4, g5⟩ := rA_6 hG
  clear hG
  obtain ⟨x0, rfl, b0, d0⟩ := rG_ref (by decide) g0
  obtain ⟨x1, rfl, b1, d1⟩ := aG_int g1
  dsimp only at b1 d1
  obtain ⟨x2, rfl, b2, d2⟩ := aG_int g2
  dsimp only at b2 d2
  obtain ⟨x3, rfl, b3, d3⟩ := aG_int g3
  dsimp only at b3 d3
  obtain ⟨x4, rfl, b4, d4⟩ := aG_int g4
  dsimp only at b4 d4
  obtain ⟨x5, rfl, b5, d5⟩ := aG_int g5
  dsimp only at b5 d5
  obtain ⟨m1, m2, m3, m4⟩ := hM0
  obtain ⟨M, hM⟩ := rMe_ex hH b0 d0
  obtain ⟨a0, c0, fs0, w0, e1, s0, t0, e4⟩ := m1 (0, 3, 5) (List.mem_of_getElem? (i := 0) rfl)
  obtain rfl : x0 = a0 := Sum.inl.inj (Option.some.inj (Sum.inr.inj (Sum.inr.inj (Option.some.inj (show some (rR x0) = some _ from e1)))))
  obtain rfl : rI x5 = w0 := Option.some.inj (show some (rI x5) = some w0 from e4)
  clear e1 e4
  have f0 : rB K n p 22 [rR x0] σ := by
    obtain ⟨w, e6, e7⟩ := m4 (353, [0]) (List.mem_of_getElem? (i := 0) rfl)
    obtain rfl : [rR x0] = w := Option.some.inj (show some [rR x0] = some w from e6)
    exact (rF_b (r := 353) (by decide) rfl).mp e7
  obtain ⟨hp, hR⟩ := ro_22.mp f0
  obtain rfl := rMg_u hM hR.1
  have uS : p.1.2.1 = x5.toInt := rRX_f hR.2.1 s0 t0
  have f1 : rB K n p 140 [rR x0, rI x3, rI x4] σ := by
    obtain ⟨w, e6, e7⟩ := m4 (2243, [0, 3, 4]) (List.mem_of_getElem? (i := 1) rfl)
    obtain rfl : [rR x0, rI x3, rI x4] = w := Option.some.inj (show some [rR x0, rI x3, rI x4] = some w from e6)
    exact (rF_b (r := 2243) (by decide) rfl).mp e7
  obtain ⟨M9, h9, f1⟩ := ro_140.mp f1
  obtain rfl := rMg_u hM h9
  clear h9
  clear m1 m2 m3 m4
  have q0 : rB K n p 32 [rI x1, rI x2] σ := ro_32.mpr (by
    obtain ⟨s, h1, h2⟩ := f1
    refine Or.inr ⟨by omega, fun h => h.2.2.1 ⟨s, ?_, ?_⟩⟩
    · rw [show p.1.2.1 = x3.toInt by omega]; exact h1
    · rw [show p.1.2.1 = x3.toInt by omega]
      rcases h2 with h2 | h2
      · exact h2.2
      · have := h2.1; omega)
  exact ⟨p, fun _ => rfl, ⟨(fun q h => by cases h), fun q h => (by cases h), (fun f h => by cases h), (aAllc ⟨_, rfl, (rF_b (r := 514) (by decide) rfl).mpr q0⟩ (fun f h => by cases h))⟩, [], List.mem_cons_self, fun f h => (by cases h)⟩
theorem rw_rvMCa11 {K : Nat → Nat} {n : Nat} {JX : (Nat → jcell) → Prop} : aGho (rF K n) fa_T K n JX ag_rvMCa11 := by
  refine aGho_of ⟨rfl, rfl⟩ ?_
  intro p σ ρ hH hX hA hM0
  have hG := aAG_of hA.1 (fun i e v he hv => (hA.2 i e v he hv).1)
  clear hA
  obtain ⟨v0, v1, v2, v3, v4, v5, v6, rfl, g0, g1, g2, g3, g4, g5, g6⟩ := rA_7 hG
  clear hG
  obtain ⟨x0, rfl, b0, d0⟩ := rG_ref (by decide) g0
  obtain ⟨x1, rfl, b1, d1⟩ := aG_int g1
  dsimp only at b1 d1
  obtain ⟨x2, rfl, b2, d2⟩ := aG_int g2
  dsimp only at b2 d2
  obtain ⟨x3, rfl, b3, d3⟩ := aG_int g3
  dsimp only at b3 d3
  obtain ⟨x4, rfl, b4, d4⟩ := aG_int g4
  dsimp only at b4 d4
  obtain ⟨x5, rfl, b5, d5⟩ := aG_int g5
  dsimp only at b5 d5
  obtain ⟨x6, rfl, b6, d6⟩ := aG_int g6
  dsimp only at b6 d6
  obtain ⟨m1, m2, m3, m4⟩ := hM0
  obtain ⟨M, hM⟩ := rMe_ex hH b0 d0
  obtain ⟨a0, c0, fs0, w0, e1, s0, t0, e4⟩ := m1 (0, 3, 6) (List.mem_of_getElem? (i := 0) rfl)
  obtain rfl : x0 = a0 := Sum.inl.inj (Option.some.inj (Sum.inr.inj (Sum.inr.inj (Option.some.inj (show some (rR x0) = some _ from e1)))))
  obtain rfl : rI x6 = w0 := Option.some.inj (show some (rI x6) = some w0 from e4)
  clear e1 e4
  have f0 : rB K n p 22 [rR x0] σ := by
    obtain ⟨w, e6, e7⟩ := m4 (353, [0]) (List.mem_of_getElem? (i := 0) rfl)
    obtain rfl : [rR x0] = w := Option.some.inj (show some [rR x0] = some w from e6)
    exact (rF_b (r := 353) (by decide) rfl).mp e7
  obtain ⟨hp, hR⟩ := ro_22.mp f0
  obtain rfl := rMg_u hM hR.1
  have uS : p.1.2.1 = x6.toInt := rRX_f hR.2.1 s0 t0
  have f1 : rB K n p 132 [rR x0, rI x3, rI x4, rI x5] σ := by
    obtain ⟨w, e6, e7⟩ := m4 (2116, [0, 3, 4, 5]) (List.mem_of_getElem? (i := 1) rfl)
    obtain rfl : [rR x0, rI x3, rI x4, rI x5] = w := Option.some.inj (show some [rR x0, rI x3, rI x4, rI x5] = some w from e6)
    exact (rF_b (r := 2116) (by decide) rfl).mp e7
  obtain ⟨M9, h9, f1⟩ := ro_132.mp f1
  obtain rfl := rMg_u hM h9
  clear h9
  clear m1 m2 m3 m4
  have q0 : rB K n p 32 [rI x1, rI x2] σ := ro_32.mpr (by
    refine Or.inr ⟨by omega, fun h => h.2.2.2 ?_⟩
    rw [show 56 * p.1.2.1 + (if x1.toInt = 1 then 5 else 3) = x3.toInt by rw [if_pos (by omega)]; omega, show 1 - p.1.2.1 = x4.toInt by omega]
    rcases f1 with h1 | h1
    · exact h1.2
    · have := h1.1; omega)
  exact ⟨p, fun _ => rfl, ⟨(fun q h => by cases h), fun q h => (by cases h), (fun f h => by cases h), (aAllc ⟨_, rfl, (rF_b (r := 514) (by decide) rfl).mpr q0⟩ (fun f h => by cases h))⟩, [], List.mem_cons_self, fun f h => (by cases h)⟩
theorem rw_rvMCy11 {K : Nat → Nat} {n : Nat} {JX : (Nat → jcell) → Prop} : aGho (rF K n) fa_T K n JX ag_rvMCy11 := by
  refine aGho_of ⟨rfl, rfl⟩ ?_
  intro p σ ρ hH hX hA hM0
  have hG := aAG_of hA.1 (fun i e v he hv => (hA.2 i e v he hv).1)
  clear hA
  obtain ⟨v0, v1, v2, v3, v4, v5, v6, v7, v8, v9, rfl, g0, g1, g2, g3, g4, g5, g6, g7, g8, g9⟩ := rA_10 hG
  clear hG
  obtain ⟨x0, rfl, b0, d0⟩ := rG_ref (by decide) g0
  obtain ⟨x1, rfl, b1, d1⟩ := aG_int g1
  dsimp only at b1 d1
  obtain ⟨x2, rfl, b2, d2⟩ := aG_int g2
  dsimp only at b2 d2
  obtain ⟨x3, rfl, b3, d3⟩ := aG_int g3
  dsimp only at b3 d3
  obtain ⟨x4, rfl, b4, d4⟩ := aG_int g4
  dsimp only at b4 d4
  obtain ⟨x5, rfl, b5, d5⟩ := aG_int g5
  dsimp only at b5 d5
  obtain ⟨x6, rfl, b6, d6⟩ := aG_int g6
  dsimp only at b6 d6
  obtain ⟨x7, rfl, b7, d7⟩ := aG_int g7
  dsimp only at b7 d7
  obtain ⟨x8, rfl, b8, d8⟩ := aG_int g8
  dsimp only at b8 d8
  obtain ⟨x9, rfl, b9, d9⟩ := aG_int g9
  dsimp only at b9 d9
  obtain ⟨m1, m2, m3, m4⟩ := hM0
  obtain ⟨M, hM⟩ := rMe_ex hH b0 d0
  obtain ⟨a0, c0, fs0, w0, e1, s0, t0, e4⟩ := m1 (0, 3, 9) (List.mem_of_getElem? (i := 0) rfl)
  obtain rfl : x0 = a0 := Sum.inl.inj (Option.some.inj (Sum.inr.inj (Sum.inr.inj (Option.some.inj (show some (rR x0) = some _ from e1)))))
  obtain rfl : rI x9 = w0 := Option.some.inj (show some (rI x9) = some w0 from e4)
  clear e1 e4
  have f0 : rB K n p 22 [rR x0] σ := by
    obtain ⟨w, e6, e7⟩ := m4 (353, [0]) (List.mem_of_getElem? (i := 0) rfl)
    obtain rfl : [rR x0] = w := Option.some.inj (show some [rR x0] = some w from e6)
    exact (rF_b (r := 353) (by decide) rfl).mp e7
  obtain ⟨hp, hR⟩ := ro_22.mp f0
  obtain rfl := rMg_u hM hR.1
  have uS : p.1.2.1 = x9.toInt := rRX_f hR.2.1 s0 t0
  have f1 : rB K n p 45 [rI x1] σ := by
    obtain ⟨w, e6, e7⟩ := m4 (721, [1]) (List.mem_of_getElem? (i := 1) rfl)
    obtain rfl : [rI x1] = w := Option.some.inj (show some [rI x1] = some w from e6)
    exact (rF_b (r := 721) (by decide) rfl).mp e7
  have f1 := ro_45.mp f1
  have f2 : rB K n p 33 [rI x1, rI x3] σ := by
    obtain ⟨w, e6, e7⟩ := m4 (530, [1, 3]) (List.mem_of_getElem? (i := 2) rfl)
    obtain rfl : [rI x1, rI x3] = w := Option.some.inj (show some [rI x1, rI x3] = some w from e6)
    exact (rF_b (r := 530) (by decide) rfl).mp e7
  have f2 := ro_33.mp f2
  have f3 : rB K n p 140 [rR x0, rI x4, rI x5] σ := by
    obtain ⟨w, e6, e7⟩ := m4 (2243, [0, 4, 5]) (List.mem_of_getElem? (i := 3) rfl)
    obtain rfl : [rR x0, rI x4, rI x5] = w := Option.some.inj (show some [rR x0, rI x4, rI x5] = some w from e6)
    exact (rF_b (r := 2243) (by decide) rfl).mp e7
  obtain ⟨M9, h9, f3⟩ := ro_140.mp f3
  obtain rfl := rMg_u hM h9
  clear h9
  have f4 : rB K n p 132 [rR x0, rI x6, rI x7, rI x8] σ := by
    obtain ⟨w, e6, e7⟩ := m4 (2116, [0, 6, 7, 8]) (List.mem_of_getElem? (i := 4) rfl)
    obtain rfl : [rR x0, rI x6, rI x7, rI x8] = w := Option.some.inj (show some [rR x0, rI x6, rI x7, rI x8] = some w from e6)
    exact (rF_b (r := 2116) (by decide) rfl).mp e7
  obtain ⟨M9, h9, f4⟩ := ro_132.mp f4
  obtain rfl := rMg_u hM h9
  clear h9
  clear m1 m2 m3 m4
  have q0 : rB K n p 32 [rI x1, rI x2] σ := ro_32.mpr (by
    refine Or.inl ⟨by omega, f1, fun j h1 h2 => f2 j h1 (by rw [if_pos (by omega)] at h2; omega), ?_, ?_⟩
    · rintro ⟨s, h1, h2⟩
      obtain ⟨s', h3, h4⟩ := f3
      rw [show p.1.2.1 = x4.toInt by omega] at h1 h2
      obtain rfl := rKg_u h1 h3
      rcases h4 with h4 | h4
      · have := h4.1; omega
      · exact h4.2 h2
    · rw [show 56 * p.1.2.1 + (if x1.toInt = 1 then 5 else 3) = x6.toInt by rw [if_pos (by omega)]; omega, show 1 - p.1.2.1 = x7.toInt by omega]
      rcases f4 with h1 | h1
      · have := h1.1; omega
      · exact h1.2)
  exact ⟨p, fun _ => rfl, ⟨(fun q h => by cases h), fun q h => (by cases h), (fun f h => by cases h), (aAllc ⟨_, rfl, (rF_b (r := 514) (by decide) rfl).mpr q0⟩ (fun f h => by cases h))⟩, [], List.mem_cons_self, fun f h => (by cases h)⟩
theorem rw_rvMCr00 {K : Nat → Nat} {n : Nat} {JX : (Nat → jcell) → Prop} : aGho (rF K n) fa_T K n JX ag_rvMCr00 := by
  refine aGho_of ⟨rfl, rfl⟩ ?_
  intro p σ ρ hH hX hA hM0
  have hG := aAG_of hA.1 (fun i e v he hv => (hA.2 i e v he hv).1)
  clear hA
  obtain ⟨v0, v1, v2, v3, v4, v5, v6, rfl, g0, g1, g2, g3, g4, g5, g6⟩ := rA_7 hG
  clear hG
  obtain ⟨x0, rfl, b0, d0⟩ := rG_ref (by decide) g0
  obtain ⟨x1, rfl, b1, d1⟩ := aG_int g1
  dsimp only at b1 d1
  obtain ⟨x2, rfl, b2, d2⟩ := aG_int g2
  dsimp only at b2 d2
  obtain ⟨x3, rfl, b3, d3⟩ := aG_int g3
  dsimp only at b3 d3
  obtain ⟨x4, rfl, b4, d4⟩ := aG_int g4
  dsimp only at b4 d4
  obtain ⟨x5, rfl, b5, d5⟩ := aG_int g5
  dsimp only at b5 d5
  obtain ⟨x6, rfl, b6, d6⟩ := aG_int g6
  dsimp only at b6 d6
  obtain ⟨m1, m2, m3, m4⟩ := hM0
  obtain ⟨M, hM⟩ := rMe_ex hH b0 d0
  obtain ⟨a0, c0, fs0, w0, e1, s0, t0, e4⟩ := m1 (0, 3, 6) (List.mem_of_getElem? (i := 0) rfl)
  obtain rfl : x0 = a0 := Sum.inl.inj (Option.some.inj (Sum.inr.inj (Sum.inr.inj (Option.some.inj (show some (rR x0) = some _ from e1)))))
  obtain rfl : rI x6 = w0 := Option.some.inj (show some (rI x6) = some w0 from e4)
  clear e1 e4
  obtain ⟨a1, c1, fs1, w1, e1, s1, t1, e4⟩ := m1 (0, 4, 3) (List.mem_of_getElem? (i := 1) rfl)
  obtain rfl : x0 = a1 := Sum.inl.inj (Option.some.inj (Sum.inr.inj (Sum.inr.inj (Option.some.inj (show some (rR x0) = some _ from e1)))))
  obtain rfl : rI x3 = w1 := Option.some.inj (show some (rI x3) = some w1 from e4)
  clear e1 e4
  have f0 : rB K n p 22 [rR x0] σ := by
    obtain ⟨w, e6, e7⟩ := m4 (353, [0]) (List.mem_of_getElem? (i := 0) rfl)
    obtain rfl : [rR x0] = w := Option.some.inj (show some [rR x0] = some w from e6)
    exact (rF_b (r := 353) (by decide) rfl).mp e7
  obtain ⟨hp, hR⟩ := ro_22.mp f0
  obtain rfl := rMg_u hM hR.1
  have uS : p.1.2.1 = x6.toInt := rRX_f hR.2.1 s0 t0
  have uR : p.1.2.2.1 = x3.toInt := rRX_f hR.2.2.1 s1 t1
  have f1 : rB K n p 111 [rI x3, rI x4, rI x5] σ := by
    obtain ⟨w, e6, e7⟩ := m4 (1779, [3, 4, 5]) (List.mem_of_getElem? (i := 1) rfl)
    obtain rfl : [rI x3, rI x4, rI x5] = w := Option.some.inj (show some [rI x3, rI x4, rI x5] = some w from e6)
    exact (rF_b (r := 1779) (by decide) rfl).mp e7
  have f1 : x5 = x3 &&& x4 := Sum.inl.inj (ro_111.mp f1)
  clear m1 m2 m3 m4
  have q0 : rB K n p 32 [rI x1, rI x2] σ := ro_32.mpr (by
    refine Or.inr ⟨by omega, fun h => (rHas_i (y := x4) uR (by rw [if_neg (by omega), if_pos (by omega)]; omega)).mp h.1 ?_⟩
    rw [← f1]
    exact Int32.toInt_inj.mp (by rw [show (0 : Int32).toInt = 0 from rfl]; omega))
  exact ⟨p, fun _ => rfl, ⟨(fun q h => by cases h), fun q h => (by cases h), (fun f h => by cases h), (aAllc ⟨_, rfl, (rF_b (r := 514) (by decide) rfl).mpr q0⟩ (fun f h => by cases h))⟩, [], List.mem_cons_self, fun f h => (by cases h)⟩
theorem rw_rvRGY00 {K : Nat → Nat} {n : Nat} {JX : (Nat → jcell) → Prop} : aGho (rF K n) fa_T K n JX ag_rvRGY00 := by
  refine aGho_of ⟨rfl, rfl⟩ ?_
  intro p σ ρ hH hX hA hM0
  have hG := aAG_of hA.1 (fun i e v he hv => (hA.2 i e v he hv).1)
  clear hA
  obtain ⟨v0, v1, v2, v3, v4, v5, rfl, g0, g1, g2, g3, g4, g5⟩ := rA_6 hG
  clear hG
  obtain ⟨x0, rfl, b0, d0⟩ := rG_ref (by decide) g0
  obtain ⟨x1, rfl, b1, d1⟩ := aG_int g1
  dsimp only at b1 d1
  obtain ⟨x2, rfl, b2, d2⟩ := aG_int g2
  dsimp only at b2 d2
  obtain ⟨x3, rfl, b3, d3⟩ := aG_int g3
  dsimp only at b3 d3
  obtain ⟨x4, rfl, b4, d4⟩ := aG_int g4
  dsimp only at b4 d4
  obtain ⟨x5, rfl, b5, d5⟩ := aG_int g5
  dsimp only at b5 d5
  obtain ⟨m1, m2, m3, m4⟩ := hM0
  obtain ⟨M, hM⟩ := rMe_ex hH b0 d0
  obtain ⟨a0, c0, fs0, w0, e1, s0, t0, e4⟩ := m1 (0, 3, 5) (List.mem_of_getElem? (i := 0) rfl)
  obtain rfl : x0 = a0 := Sum.inl.inj (Option.some.inj (Sum.inr.inj (Sum.inr.inj (Option.some.inj (show some (rR x0) = some _ from e1)))))
  obtain rfl : rI x5 = w0 := Option.some.inj (show some (rI x5) = some w0 from e4)
  clear e1 e4
  obtain ⟨a1, c1, fs1, w1, e1, s1, t1, e4⟩ := m1 (0, 4, 2) (List.mem_of_getElem? (i := 1) rfl)
  obtain rfl : x0 = a1 := Sum.inl.inj (Option.some.inj (Sum.inr.inj (Sum.inr.inj (Option.some.inj (show some (rR x0) = some _ from e1)))))
  obtain rfl : rI x2 = w1 := Option.some.inj (show some (rI x2) = some w1 from e4)
  clear e1 e4
  have f0 : rB K n p 22 [rR x0] σ := by
    obtain ⟨w, e6, e7⟩ := m4 (353, [0]) (List.mem_of_getElem? (i := 0) rfl)
    obtain rfl : [rR x0] = w := Option.some.inj (show some [rR x0] = some w from e6)
    exact (rF_b (r := 353) (by decide) rfl).mp e7
  obtain ⟨hp, hR⟩ := ro_22.mp f0
  obtain rfl := rMg_u hM hR.1
  have uS : p.1.2.1 = x5.toInt := rRX_f hR.2.1 s0 t0
  have uR : p.1.2.2.1 = x2.toInt := rRX_f hR.2.2.1 s1 t1
  have f1 : rB K n p 111 [rI x2, rI x3, rI x4] σ := by
    obtain ⟨w, e6, e7⟩ := m4 (1779, [2, 3, 4]) (List.mem_of_getElem? (i := 1) rfl)
    obtain rfl : [rI x2, rI x3, rI x4] = w := Option.some.inj (show some [rI x2, rI x3, rI x4] = some w from e6)
    exact (rF_b (r := 1779) (by decide) rfl).mp e7
  have f1 : x4 = x2 &&& x3 := Sum.inl.inj (ro_111.mp f1)
  clear m1 m2 m3 m4
  have q0 : rB K n p 45 [rI x1] σ := ro_45.mpr (by
    refine (rHas_i (y := x3) uR (by rw [if_neg (by omega), if_pos (by omega)]; omega)).mpr (fun e => ?_)
    have e2 : x4.toInt = 0 := by rw [f1, e]; rfl
    omega)
  exact ⟨p, fun _ => rfl, ⟨(fun q h => by cases h), fun q h => (by cases h), (fun f h => by cases h), (aAllc ⟨_, rfl, (rF_b (r := 721) (by decide) rfl).mpr q0⟩ (fun f h => by cases h))⟩, [], List.mem_cons_self, fun f h => (by cases h)⟩
theorem rw_rvEP000 {K : Nat → Nat} {n : Nat} {JX : (Nat → jcell) → Prop} : aGho (rF K n) fa_T K n JX ag_rvEP000 := by
  refine aGho_of ⟨rfl, rfl⟩ ?_
  intro p σ ρ hH hX hA hM0
  have hG := aAG_of hA.1 (fun i e v he hv => (hA.2 i e v he hv).1)
  clear hA
  obtain ⟨v0, v1, v2, v3, rfl, g0, g1, g2, g3⟩ := rA_4 hG
  clear hG
  obtain ⟨x0, rfl, b0, d0⟩ := rG_ref (by decide) g0
  obtain ⟨x1, rfl, b1, d1⟩ := aG_int g1
  dsimp only at b1 d1
  obtain ⟨x2, rfl, b2, d2⟩ := aG_int g2
  dsimp only at b2 d2
  obtain ⟨x3, rfl, b3, d3⟩ := aG_int g3
  dsimp only at b3 d3
  obtain ⟨m1, m2, m3, m4⟩ := hM0
  obtain ⟨M, hM⟩ := rMe_ex hH b0 d0
  obtain ⟨a0, c0, fs0, w0, e1, s0, t0, e4⟩ := m1 (0, 3, 3) (List.mem_of_getElem? (i := 0) rfl)
  obtain rfl : x0 = a0 := Sum.inl.inj (Option.some.inj (Sum.inr.inj (Sum.inr.inj (Option.some.inj (show some (rR x0) = some _ from e1)))))
  obtain rfl : rI x3 = w0 := Option.some.inj (show some (rI x3) = some w0 from e4)
  clear e1 e4
  have f0 : rB K n p 22 [rR x0] σ := by
    obtain ⟨w, e6, e7⟩ := m4 (353, [0]) (List.mem_of_getElem? (i := 0) rfl)
    obtain rfl : [rR x0] = w := Option.some.inj (show some [rR x0] = some w from e6)
    exact (rF_b (r := 353) (by decide) rfl).mp e7
  obtain ⟨hp, hR⟩ := ro_22.mp f0
  obtain rfl := rMg_u hM hR.1
  have uS : p.1.2.1 = x3.toInt := rRX_f hR.2.1 s0 t0
  clear m1 m2 m3 m4
  have q0 : rB K n p 33 [rI x1, rI x2] σ := ro_33.mpr (by
    intro j h1 h2
    rw [if_neg (by omega)] at h1
    omega)
  exact ⟨p, fun _ => rfl, ⟨(fun q h => by cases h), fun q h => (by cases h), (fun f h => by cases h), (aAllc ⟨_, rfl, (rF_b (r := 530) (by decide) rfl).mpr q0⟩ (fun f h => by cases h))⟩, [], List.mem_cons_self, fun f h => (by cases h)⟩
theorem rw_rvMCn00 {K : Nat → Nat} {n : Nat} {JX : (Nat → jcell) → Prop} : aGho (rF K n) fa_T K n JX ag_rvMCn00 := by
  refine aGho_of ⟨rfl, rfl⟩ ?_
  intro p σ ρ hH hX hA hM0
  have hG := aAG_of hA.1 (fun i e v he hv => (hA.2 i e v he hv).1)
  clear hA
  obtain ⟨v0, v1, v2, v3, v4, v5, v6, rfl, g0, g1, g2, g3, g4, g5, g6⟩ := rA_7 hG
  clear hG
  obtain ⟨x0, rfl, b0, d0⟩ := rG_ref (by decide) g0
  obtain ⟨x1, rfl, b1, d1⟩ := aG_int g1
  dsimp only at b1 d1
  obtain ⟨x2, rfl, b2, d2⟩ := aG_int g2
  dsimp only at b2 d2
  obtain ⟨x3, rfl, b3, d3⟩ := aG_int g3
  dsimp only at b3 d3
  obtain ⟨x4, rfl, b4, d4⟩ := aG_int g4
  dsimp only at b4 d4
  obtain ⟨x5, rfl, b5, d5⟩ := rG_ref (by decide) g5
  obtain ⟨x6, rfl, b6, d6⟩ := aG_int g6
  dsimp only at b6 d6
  obtain ⟨m1, m2, m3, m4⟩ := hM0
  obtain ⟨M, hM⟩ := rMe_ex hH b0 d0
  obtain ⟨a0, c0, fs0, w0, e1, s0, t0, e4⟩ := m1 (0, 2, 5) (List.mem_of_getElem? (i := 0) rfl)
  obtain rfl : x0 = a0 := Sum.inl.inj (Option.some.inj (Sum.inr.inj (Sum.inr.inj (Option.some.inj (show some (rR x0) = some _ from e1)))))
  obtain rfl : rR x5 = w0 := Option.some.inj (show some (rR x5) = some w0 from e4)
  clear e1 e4
  obtain ⟨a1, c1, fs1, w1, e1, s1, t1, e4⟩ := m1 (0, 3, 6) (List.mem_of_getElem? (i := 1) rfl)
  obtain rfl : x0 = a1 := Sum.inl.inj (Option.some.inj (Sum.inr.inj (Sum.inr.inj (Option.some.inj (show some (rR x0) = some _ from e1)))))
  obtain rfl : rI x6 = w1 := Option.some.inj (show some (rI x6) = some w1 from e4)
  clear e1 e4
  obtain ⟨a, mc0, ty0, gc0, ic0, e1, sc0, jc0, e4, e5⟩ := m2 (5, ([(3, 1)], 0), 4) (List.mem_of_getElem? (i := 0) rfl)
  obtain rfl : x5 = a := Sum.inl.inj (Option.some.inj (Sum.inr.inj (Sum.inr.inj (Option.some.inj (show some (rR x5) = some _ from e1)))))
  obtain ⟨gc0, rfl⟩ : ∃ g, gc0 = .inl g := by
    rcases gc0 with g | g
    · exact ⟨g, rfl⟩
    · exact absurd (show some (rI x4) = some (.inr (.inl (g ic0))) from e5) (fun h => by cases h)
  have sc0 : σ x5 = .inl (ty0, mc0, .inl gc0) := sc0
  have ec0 : x4 = gc0 ic0 := Sum.inl.inj (Option.some.inj (show some (rI x4) = some _ from e5))
  have kc0 : (ic0 : Int) = (1 * x3.toInt + 0) + 0 := by
    obtain ⟨z, e6, e7⟩ := e4
    obtain rfl : (1 * x3.toInt + 0) = z := Option.some.inj (show some (1 * x3.toInt + 0) = some z from e6)
    exact e7
  clear e1 e4 e5
  have l0 : 0 ≤ (1 * x3.toInt + 0) + -1 := by
    obtain ⟨z, e6, e7⟩ := m3 ([(3, 1)], -1) (List.mem_of_getElem? (i := 0) rfl)
    obtain rfl : (1 * x3.toInt + 0) = z := Option.some.inj (show some (1 * x3.toInt + 0) = some z from e6)
    exact e7
  have l1 : 0 ≤ (-1 * x3.toInt + 0) + 3 := by
    obtain ⟨z, e6, e7⟩ := m3 ([(3, -1)], 3) (List.mem_of_getElem? (i := 1) rfl)
    obtain rfl : (-1 * x3.toInt + 0) = z := Option.some.inj (show some (-1 * x3.toInt + 0) = some z from e6)
    exact e7
  have y0 : M x3.toInt = x4.toInt := rMg_c hM s0 t0 sc0 (by omega) (by omega) (by omega) ec0
  have f0 : rB K n p 22 [rR x0] σ := by
    obtain ⟨w, e6, e7⟩ := m4 (353, [0]) (List.mem_of_getElem? (i := 0) rfl)
    obtain rfl : [rR x0] = w := Option.some.inj (show some [rR x0] = some w from e6)
    exact (rF_b (r := 353) (by decide) rfl).mp e7
  obtain ⟨hp, hR⟩ := ro_22.mp f0
  obtain rfl := rMg_u hM hR.1
  have uS : p.1.2.1 = x6.toInt := rRX_f hR.2.1 s1 t1
  clear m1 m2 m3 m4
  have q0 : rB K n p 32 [rI x1, rI x2] σ := ro_32.mpr (by
    refine Or.inr ⟨by omega, fun h => ?_⟩
    have h1 := h.2.1 x3.toInt (by rw [if_neg (by omega)]; omega) (by rw [if_neg (by omega)]; omega)
    omega)
  exact ⟨p, fun _ => rfl, ⟨(fun q h => by cases h), fun q h => (by cases h), (fun f h => by cases h), (aAllc ⟨_, rfl, (rF_b (r := 514) (by decide) rfl).mpr q0⟩ (fun f h => by cases h))⟩, [], List.mem_cons_self, fun f h => (by cases h)⟩
theorem rw_rvMCc00 {K : Nat → Nat} {n : Nat} {JX : (Nat → jcell) → Prop} : aGho (rF K n) fa_T K n JX ag_rvMCc00 := by
  refine aGho_of ⟨rfl, rfl⟩ ?_
  intro p σ ρ hH hX hA hM0
  have hG := aAG_of hA.1 (fun i e v he hv => (hA.2 i e v he hv).1)
  clear hA
  obtain ⟨v0, v1, v2, v3, v4, v5, rfl, g0, g1, g2, g3, g4, g5⟩ := rA_6 hG
  clear hG
  obtain ⟨x0, rfl, b0, d0⟩ := rG_ref (by decide) g0
  obtain ⟨x1, rfl, b1, d1⟩ := aG_int g1
  dsimp only at b1 d1
  obtain ⟨x2, rfl, b2, d2⟩ := aG_int g2
  dsimp only at b2 d2
  obtain ⟨x3, rfl, b3, d3⟩ := aG_int g3
  dsimp only at b3 d3
  obtain ⟨x4, rfl, b4, d4⟩ := aG_int g4
  dsimp only at b4 d4
  obtain ⟨x5, rfl, b5, d5⟩ := aG_int g5
  dsimp only at b5 d5
  obtain ⟨m1, m2, m3, m4⟩ := hM0
  obtain ⟨M, hM⟩ := rMe_ex hH b0 d0
  obtain ⟨a0, c0, fs0, w0, e1, s0, t0, e4⟩ := m1 (0, 3, 5) (List.mem_of_getElem? (i := 0) rfl)
  obtain rfl : x0 = a0 := Sum.inl.inj (Option.some.inj (Sum.inr.inj (Sum.inr.inj (Option.some.inj (show some (rR x0) = some _ from e1)))))
  obtain rfl : rI x5 = w0 := Option.some.inj (show some (rI x5) = some w0 from e4)
  clear e1 e4
  have f0 : rB K n p 22 [rR x0] σ := by
    obtain ⟨w, e6, e7⟩ := m4 (353, [0]) (List.mem_of_getElem? (i := 0) rfl)
    obtain rfl : [rR x0] = w := Option.some.inj (show some [rR x0] = some w from e6)
    exact (rF_b (r := 353) (by decide) rfl).mp e7
  obtain ⟨hp, hR⟩ := ro_22.mp f0
  obtain rfl := rMg_u hM hR.1
  have uS : p.1.2.1 = x5.toInt := rRX_f hR.2.1 s0 t0
  have f1 : rB K n p 140 [rR x0, rI x3, rI x4] σ := by
    obtain ⟨w, e6, e7⟩ := m4 (2243, [0, 3, 4]) (List.mem_of_getElem? (i := 1) rfl)
    obtain rfl : [rR x0, rI x3, rI x4] = w := Option.some.inj (show some [rR x0, rI x3, rI x4] = some w from e6)
    exact (rF_b (r := 2243) (by decide) rfl).mp e7
  obtain ⟨M9, h9, f1⟩ := ro_140.mp f1
  obtain rfl := rMg_u hM h9
  clear h9
  clear m1 m2 m3 m4
  have q0 : rB K n p 32 [rI x1, rI x2] σ := ro_32.mpr (by
    obtain ⟨s, h1, h2⟩ := f1
    refine Or.inr ⟨by omega, fun h => h.2.2.1 ⟨s, ?_, ?_⟩⟩
    · rw [show p.1.2.1 = x3.toInt by omega]; exact h1
    · rw [show p.1.2.1 = x3.toInt by omega]
      rcases h2 with h2 | h2
      · exact h2.2
      · have := h2.1; omega)
  exact ⟨p, fun _ => rfl, ⟨(fun q h => by cases h), fun q h => (by cases h), (fun f h => by cases h), (aAllc ⟨_, rfl, (rF_b (r := 514) (by decide) rfl).mpr q0⟩ (fun f h => by cases h))⟩, [], List.mem_cons_self, fun f h => (by cases h)⟩
theorem rw_rvMCa00 {K : Nat → Nat} {n : Nat} {JX : (Nat → jcell) → Prop} : aGho (rF K n) fa_T K n JX ag_rvMCa00 := by
  refine aGho_of ⟨rfl, rfl⟩ ?_
  intro p σ ρ hH hX hA hM0
  have hG := aAG_of hA.1 (fun i e v he hv => (hA.2 i e v he hv).1)
  clear hA
  obtain ⟨v0, v1, v2, v3, v4, v5, v6, rfl, g0, g1, g2, g3, g4, g5, g6⟩ := rA_7 hG
  clear hG
  obtain ⟨x0, rfl, b0, d0⟩ := rG_ref (by decide) g0
  obtain ⟨x1, rfl, b1, d1⟩ := aG_int g1
  dsimp only at b1 d1
  obtain ⟨x2, rfl, b2, d2⟩ := aG_int g2
  dsimp only at b2 d2
  obtain ⟨x3, rfl, b3, d3⟩ := aG_int g3
  dsimp only at b3 d3
  obtain ⟨x4, rfl, b4, d4⟩ := aG_int g4
  dsimp only at b4 d4
  obtain ⟨x5, rfl, b5, d5⟩ := aG_int g5
  dsimp only at b5 d5
  obtain ⟨x6, rfl, b6, d6⟩ := aG_int g6
  dsimp only at b6 d6
  obtain ⟨m1, m2, m3, m4⟩ := hM0
  obtain ⟨M, hM⟩ := rMe_ex hH b0 d0
  obtain ⟨a0, c0, fs0, w0, e1, s0, t0, e4⟩ := m1 (0, 3, 6) (List.mem_of_getElem? (i := 0) rfl)
  obtain rfl : x0 = a0 := Sum.inl.inj (Option.some.inj (Sum.inr.inj (Sum.inr.inj (Option.some.inj (show some (rR x0) = some _ from e1)))))
  obtain rfl : rI x6 = w0 := Option.some.inj (show some (rI x6) = some w0 from e4)
  clear e1 e4
  have f0 : rB K n p 22 [rR x0] σ := by
    obtain ⟨w, e6, e7⟩ := m4 (353, [0]) (List.mem_of_getElem? (i := 0) rfl)
    obtain rfl : [rR x0] = w := Option.some.inj (show some [rR x0] = some w from e6)
    exact (rF_b (r := 353) (by decide) rfl).mp e7
  obtain ⟨hp, hR⟩ := ro_22.mp f0
  obtain rfl := rMg_u hM hR.1
  have uS : p.1.2.1 = x6.toInt := rRX_f hR.2.1 s0 t0
  have f1 : rB K n p 132 [rR x0, rI x3, rI x4, rI x5] σ := by
    obtain ⟨w, e6, e7⟩ := m4 (2116, [0, 3, 4, 5]) (List.mem_of_getElem? (i := 1) rfl)
    obtain rfl : [rR x0, rI x3, rI x4, rI x5] = w := Option.some.inj (show some [rR x0, rI x3, rI x4, rI x5] = some w from e6)
    exact (rF_b (r := 2116) (by decide) rfl).mp e7
  obtain ⟨M9, h9, f1⟩ := ro_132.mp f1
  obtain rfl := rMg_u hM h9
  clear h9
  clear m1 m2 m3 m4
  have q0 : rB K n p 32 [rI x1, rI x2] σ := ro_32.mpr (by
    refine Or.inr ⟨by omega, fun h => h.2.2.2 ?_⟩
    rw [show 56 * p.1.2.1 + (if x1.toInt = 1 then 5 else 3) = x3.toInt by rw [if_neg (by omega)]; omega, show 1 - p.1.2.1 = x4.toInt by omega]
    rcases f1 with h1 | h1
    · exact h1.2
    · have := h1.1; omega)
  exact ⟨p, fun _ => rfl, ⟨(fun q h => by cases h), fun q h => (by cases h), (fun f h => by cases h), (aAllc ⟨_, rfl, (rF_b (r := 514) (by decide) rfl).mpr q0⟩ (fun f h => by cases h))⟩, [], List.mem_cons_self, fun f h => (by cases h)⟩
theorem rw_rvMCy00 {K : Nat → Nat} {n : Nat} {JX : (Nat → jcell) → Prop} : aGho (rF K n) fa_T K n JX ag_rvMCy00 := by
  refine aGho_of ⟨rfl, rfl⟩ ?_
  intro p σ ρ hH hX hA hM0
  have hG := aAG_of hA.1 (fun i e v he hv => (hA.2 i e v he hv).1)
  clear hA
  obtain ⟨v0, v1, v2, v3, v4, v5, v6, v7, v8, v9, rfl, g0, g1, g2, g3, g4, g5, g6, g7, g8, g9⟩ := rA_10 hG
  clear hG
  obtain ⟨x0, rfl, b0, d0⟩ := rG_ref (by decide) g0
  obtain ⟨x1, rfl, b1, d1⟩ := aG_int g1
  dsimp only at b1 d1
  obtain ⟨x2, rfl, b2, d2⟩ := aG_int g2
  dsimp only at b2 d2
  obtain ⟨x3, rfl, b3, d3⟩ := aG_int g3
  dsimp only at b3 d3
  obtain ⟨x4, rfl, b4, d4⟩ := aG_int g4
  dsimp only at b4 d4
  obtain ⟨x5, rfl, b5, d5⟩ := aG_int g5
  dsimp only at b5 d5
  obtain ⟨x6, rfl, b6, d6⟩ := aG_int g6
  dsimp only at b6 d6
  obtain ⟨x7, rfl, b7, d7⟩ := aG_int g7
  dsimp only at b7 d7
  obtain ⟨x8, rfl, b8, d8⟩ := aG_int g8
  dsimp only at b8 d8
  obtain ⟨x9, rfl, b9, d9⟩ := aG_int g9
  dsimp only at b9 d9
  obtain ⟨m1, m2, m3, m4⟩ := hM0
  obtain ⟨M, hM⟩ := rMe_ex hH b0 d0
  obtain ⟨a0, c0, fs0, w0, e1, s0, t0, e4⟩ := m1 (0, 3, 9) (List.mem_of_getElem? (i := 0) rfl)
  obtain rfl : x0 = a0 := Sum.inl.inj (Option.some.inj (Sum.inr.inj (Sum.inr.inj (Option.some.inj (show some (rR x0) = some _ from e1)))))
  obtain rfl : rI x9 = w0 := Option.some.inj (show some (rI x9) = some w0 from e4)
  clear e1 e4
  have f0 : rB K n p 22 [rR x0] σ := by
    obtain ⟨w, e6, e7⟩ := m4 (353, [0]) (List.mem_of_getElem? (i := 0) rfl)
    obtain rfl : [rR x0] = w := Option.some.inj (show some [rR x0] = some w from e6)
    exact (rF_b (r := 353) (by decide) rfl).mp e7
  obtain ⟨hp, hR⟩ := ro_22.mp f0
  obtain rfl := rMg_u hM hR.1
  have uS : p.1.2.1 = x9.toInt := rRX_f hR.2.1 s0 t0
  have f1 : rB K n p 45 [rI x1] σ := by
    obtain ⟨w, e6, e7⟩ := m4 (721, [1]) (List.mem_of_getElem? (i := 1) rfl)
    obtain rfl : [rI x1] = w := Option.some.inj (show some [rI x1] = some w from e6)
    exact (rF_b (r := 721) (by decide) rfl).mp e7
  have f1 := ro_45.mp f1
  have f2 : rB K n p 33 [rI x1, rI x3] σ := by
    obtain ⟨w, e6, e7⟩ := m4 (530, [1, 3]) (List.mem_of_getElem? (i := 2) rfl)
    obtain rfl : [rI x1, rI x3] = w := Option.some.inj (show some [rI x1, rI x3] = some w from e6)
    exact (rF_b (r := 530) (by decide) rfl).mp e7
  have f2 := ro_33.mp f2
  have f3 : rB K n p 140 [rR x0, rI x4, rI x5] σ := by
    obtain ⟨w, e6, e7⟩ := m4 (2243, [0, 4, 5]) (List.mem_of_getElem? (i := 3) rfl)
    obtain rfl : [rR x0, rI x4, rI x5] = w := Option.some.inj (show some [rR x0, rI x4, rI x5] = some w from e6)
    exact (rF_b (r := 2243) (by decide) rfl).mp e7
  obtain ⟨M9, h9, f3⟩ := ro_140.mp f3
  obtain rfl := rMg_u hM h9
  clear h9
  have f4 : rB K n p 132 [rR x0, rI x6, rI x7, rI x8] σ := by
    obtain ⟨w, e6, e7⟩ := m4 (2116, [0, 6, 7, 8]) (List.mem_of_getElem? (i := 4) rfl)
    obtain rfl : [rR x0, rI x6, rI x7, rI x8] = w := Option.some.inj (show some [rR x0, rI x6, rI x7, rI x8] = some w from e6)
    exact (rF_b (r := 2116) (by decide) rfl).mp e7
  obtain ⟨M9, h9, f4⟩ := ro_132.mp f4
  obtain rfl := rMg_u hM h9
  clear h9
  clear m1 m2 m3 m4
  have q0 : rB K n p 32 [rI x1, rI x2] σ := ro_32.mpr (by
    refine Or.inl ⟨by omega, f1, fun j h1 h2 => f2 j h1 (by rw [if_neg (by omega)] at h2; omega), ?_, ?_⟩
    · rintro ⟨s, h1, h2⟩
      obtain ⟨s', h3, h4⟩ := f3
      rw [show p.1.2.1 = x4.toInt by omega] at h1 h2
      obtain rfl := rKg_u h1 h3
      rcases h4 with h4 | h4
      · have := h4.1; omega
      · exact h4.2 h2
    · rw [show 56 * p.1.2.1 + (if x1.toInt = 1 then 5 else 3) = x6.toInt by rw [if_neg (by omega)]; omega, show 1 - p.1.2.1 = x7.toInt by omega]
      rcases f4 with h1 | h1
      · have := h1.1; omega
      · exact h1.2)
  exact ⟨p, fun _ => rfl, ⟨(fun q h => by cases h), fun q h => (by cases h), (fun f h => by cases h), (aAllc ⟨_, rfl, (rF_b (r := 514) (by decide) rfl).mpr q0⟩ (fun f h => by cases h))⟩, [], List.mem_cons_self, fun f h => (by cases h)⟩
theorem rw_rvMCr01 {K : Nat → Nat} {n : Nat} {JX : (Nat → jcell) → Prop} : aGho (rF K n) fa_T K n JX ag_rvMCr01 := by
  refine aGho_of ⟨rfl, rfl⟩ ?_
  intro p σ ρ hH hX hA hM0
  have hG := aAG_of hA.1 (fun i e v he hv => (hA.2 i e v he hv).1)
  clear hA
  obtain ⟨v0, v1, v2, v3, v4, v5, v6, rfl, g0, g1, g2, g3, g4, g5, g6⟩ := rA_7 hG
  clear hG
  obtain ⟨x0, rfl, b0, d0⟩ := rG_ref (by decide) g0
  obtain ⟨x1, rfl, b1, d1⟩ := aG_int g1
  dsimp only at b1 d1
  obtain ⟨x2, rfl, b2, d2⟩ := aG_int g2
  dsimp only at b2 d2
  obtain ⟨x3, rfl, b3, d3⟩ := aG_int g3
  dsimp only at b3 d3
  obtain ⟨x4, rfl, b4, d4⟩ := aG_int g4
  dsimp only at b4 d4
  obtain ⟨x5, rfl, b5, d5⟩ := aG_int g5
  dsimp only at b5 d5
  obtain ⟨x6, rfl, b6, d6⟩ := aG_int g6
  dsimp only at b6 d6
  obtain ⟨m1, m2, m3, m4⟩ := hM0
  obtain ⟨M, hM⟩ := rMe_ex hH b0 d0
  obtain ⟨a0, c0, fs0, w0, e1, s0, t0, e4⟩ := m1 (0, 3, 6) (List.mem_of_getElem? (i := 0) rfl)
  obtain rfl : x0 = a0 := Sum.inl.inj (Option.some.inj (Sum.inr.inj (Sum.inr.inj (Option.some.inj (show some (rR x0) = some _ from e1)))))
  obtain rfl : rI x6 = w0 := Option.some.inj (show some (rI x6) = some w0 from e4)
  clear e1 e4
  obtain ⟨a1, c1, fs1, w1, e1, s1, t1, e4⟩ := m1 (0, 4, 3) (List.mem_of_getElem? (i := 1) rfl)
  obtain rfl : x0 = a1 := Sum.inl.inj (Option.some.inj (Sum.inr.inj (Sum.inr.inj (Option.some.inj (show some (rR x0) = some _ from e1)))))
  obtain rfl : rI x3 = w1 := Option.some.inj (show some (rI x3) = some w1 from e4)
  clear e1 e4
  have f0 : rB K n p 22 [rR x0] σ := by
    obtain ⟨w, e6, e7⟩ := m4 (353, [0]) (List.mem_of_getElem? (i := 0) rfl)
    obtain rfl : [rR x0] = w := Option.some.inj (show some [rR x0] = some w from e6)
    exact (rF_b (r := 353) (by decide) rfl).mp e7
  obtain ⟨hp, hR⟩ := ro_22.mp f0
  obtain rfl := rMg_u hM hR.1
  have uS : p.1.2.1 = x6.toInt := rRX_f hR.2.1 s0 t0
  have uR : p.1.2.2.1 = x3.toInt := rRX_f hR.2.2.1 s1 t1
  have f1 : rB K n p 111 [rI x3, rI x4, rI x5] σ := by
    obtain ⟨w, e6, e7⟩ := m4 (1779, [3, 4, 5]) (List.mem_of_getElem? (i := 1) rfl)
    obtain rfl : [rI x3, rI x4, rI x5] = w := Option.some.inj (show some [rI x3, rI x4, rI x5] = some w from e6)
    exact (rF_b (r := 1779) (by decide) rfl).mp e7
  have f1 : x5 = x3 &&& x4 := Sum.inl.inj (ro_111.mp f1)
  clear m1 m2 m3 m4
  have q0 : rB K n p 32 [rI x1, rI x2] σ := ro_32.mpr (by
    refine Or.inr ⟨by omega, fun h => (rHas_i (y := x4) uR (by rw [if_neg (by omega), if_neg (by omega)]; omega)).mp h.1 ?_⟩
    rw [← f1]
    exact Int32.toInt_inj.mp (by rw [show (0 : Int32).toInt = 0 from rfl]; omega))
  exact ⟨p, fun _ => rfl, ⟨(fun q h => by cases h), fun q h => (by cases h), (fun f h => by cases h), (aAllc ⟨_, rfl, (rF_b (r := 514) (by decide) rfl).mpr q0⟩ (fun f h => by cases h))⟩, [], List.mem_cons_self, fun f h => (by cases h)⟩
theorem rw_rvRGY01 {K : Nat → Nat} {n : Nat} {JX : (Nat → jcell) → Prop} : aGho (rF K n) fa_T K n JX ag_rvRGY01 := by
  refine aGho_of ⟨rfl, rfl⟩ ?_
  intro p σ ρ hH hX hA hM0
  have hG := aAG_of hA.1 (fun i e v he hv => (hA.2 i e v he hv).1)
  clear hA
  obtain ⟨v0, v1, v2, v3, v4, v5, rfl, g0, g1, g2, g3, g4, g5⟩ := rA_6 hG
  clear hG
  obtain ⟨x0, rfl, b0, d0⟩ := rG_ref (by decide) g0
  obtain ⟨x1, rfl, b1, d1⟩ := aG_int g1
  dsimp only at b1 d1
  obtain ⟨x2, rfl, b2, d2⟩ := aG_int g2
  dsimp only at b2 d2
  obtain ⟨x3, rfl, b3, d3⟩ := aG_int g3
  dsimp only at b3 d3
  obtain ⟨x4, rfl, b4, d4⟩ := aG_int g4
  dsimp only at b4 d4
  obtain ⟨x5, rfl, b5, d5⟩ := aG_int g5
  dsimp only at b5 d5
  obtain ⟨m1, m2, m3, m4⟩ := hM0
  obtain ⟨M, hM⟩ := rMe_ex hH b0 d0
  obtain ⟨a0, c0, fs0, w0, e1, s0, t0, e4⟩ := m1 (0, 3, 5) (List.mem_of_getElem? (i := 0) rfl)
  obtain rfl : x0 = a0 := Sum.inl.inj (Option.some.inj (Sum.inr.inj (Sum.inr.inj (Option.some.inj (show some (rR x0) = some _ from e1)))))
  obtain rfl : rI x5 = w0 := Option.some.inj (show some (rI x5) = some w0 from e4)
  clear e1 e4
  obtain ⟨a1, c1, fs1, w1, e1, s1, t1, e4⟩ := m1 (0, 4, 2) (List.mem_of_getElem? (i := 1) rfl)
  obtain rfl : x0 = a1 := Sum.inl.inj (Option.some.inj (Sum.inr.inj (Sum.inr.inj (Option.some.inj (show some (rR x0) = some _ from e1)))))
  obtain rfl : rI x2 = w1 := Option.some.inj (show some (rI x2) = some w1 from e4)
  clear e1 e4
  have f0 : rB K n p 22 [rR x0] σ := by
    obtain ⟨w, e6, e7⟩ := m4 (353, [0]) (List.mem_of_getElem? (i := 0) rfl)
    obtain rfl : [rR x0] = w := Option.some.inj (show some [rR x0] = some w from e6)
    exact (rF_b (r := 353) (by decide) rfl).mp e7
  obtain ⟨hp, hR⟩ := ro_22.mp f0
  obtain rfl := rMg_u hM hR.1
  have uS : p.1.2.1 = x5.toInt := rRX_f hR.2.1 s0 t0
  have uR : p.1.2.2.1 = x2.toInt := rRX_f hR.2.2.1 s1 t1
  have f1 : rB K n p 111 [rI x2, rI x3, rI x4] σ := by
    obtain ⟨w, e6, e7⟩ := m4 (1779, [2, 3, 4]) (List.mem_of_getElem? (i := 1) rfl)
    obtain rfl : [rI x2, rI x3, rI x4] = w := Option.some.inj (show some [rI x2, rI x3, rI x4] = some w from e6)
    exact (rF_b (r := 1779) (by decide) rfl).mp e7
  have f1 : x4 = x2 &&& x3 := Sum.inl.inj (ro_111.mp f1)
  clear m1 m2 m3 m4
  have q0 : rB K n p 45 [rI x1] σ := ro_45.mpr (by
    refine (rHas_i (y := x3) uR (by rw [if_neg (by omega), if_neg (by omega)]; omega)).mpr (fun e => ?_)
    have e2 : x4.toInt = 0 := by rw [f1, e]; rfl
    omega)
  exact ⟨p, fun _ => rfl, ⟨(fun q h => by cases h), fun q h => (by cases h), (fun f h => by cases h), (aAllc ⟨_, rfl, (rF_b (r := 721) (by decide) rfl).mpr q0⟩ (fun f h => by cases h))⟩, [], List.mem_cons_self, fun f h => (by cases h)⟩
theorem rw_rvEP001 {K : Nat → Nat} {n : Nat} {JX : (Nat → jcell) → Prop} : aGho (rF K n) fa_T K n JX ag_rvEP001 := by
  refine aGho_of ⟨rfl, rfl⟩ ?_
  intro p σ ρ hH hX hA hM0
  have hG := aAG_of hA.1 (fun i e v he hv => (hA.2 i e v he hv).1)
  clear hA
  obtain ⟨v0, v1, v2, v3, rfl, g0, g1, g2, g3⟩ := rA_4 hG
  clear hG
  obtain ⟨x0, rfl, b0, d0⟩ := rG_ref (by decide) g0
  obtain ⟨x1, rfl, b1, d1⟩ := aG_int g1
  dsimp only at b1 d1
  obtain ⟨x2, rfl, b2, d2⟩ := aG_int g2
  dsimp only at b2 d2
  obtain ⟨x3, rfl, b3, d3⟩ := aG_int g3
  dsimp only at b3 d3
  obtain ⟨m1, m2, m3, m4⟩ := hM0
  obtain ⟨M, hM⟩ := rMe_ex hH b0 d0
  obtain ⟨a0, c0, fs0, w0, e1, s0, t0, e4⟩ := m1 (0, 3, 3) (List.mem_of_getElem? (i := 0) rfl)
  obtain rfl : x0 = a0 := Sum.inl.inj (Option.some.inj (Sum.inr.inj (Sum.inr.inj (Option.some.inj (show some (rR x0) = some _ from e1)))))
  obtain rfl : rI x3 = w0 := Option.some.inj (show some (rI x3) = some w0 from e4)
  clear e1 e4
  have f0 : rB K n p 22 [rR x0] σ := by
    obtain ⟨w, e6, e7⟩ := m4 (353, [0]) (List.mem_of_getElem? (i := 0) rfl)
    obtain rfl : [rR x0] = w := Option.some.inj (show some [rR x0] = some w from e6)
    exact (rF_b (r := 353) (by decide) rfl).mp e7
  obtain ⟨hp, hR⟩ := ro_22.mp f0
  obtain rfl := rMg_u hM hR.1
  have uS : p.1.2.1 = x3.toInt := rRX_f hR.2.1 s0 t0
  clear m1 m2 m3 m4
  have q0 : rB K n p 33 [rI x1, rI x2] σ := ro_33.mpr (by
    intro j h1 h2
    rw [if_neg (by omega)] at h1
    omega)
  exact ⟨p, fun _ => rfl, ⟨(fun q h => by cases h), fun q h => (by cases h), (fun f h => by cases h), (aAllc ⟨_, rfl, (rF_b (r := 530) (by decide) rfl).mpr q0⟩ (fun f h => by cases h))⟩, [], List.mem_cons_self, fun f h => (by cases h)⟩
theorem rw_rvMCn01 {K : Nat → Nat} {n : Nat} {JX : (Nat → jcell) → Prop} : aGho (rF K n) fa_T K n JX ag_rvMCn01 := by
  refine aGho_of ⟨rfl, rfl⟩ ?_
  intro p σ ρ hH hX hA hM0
  have hG := aAG_of hA.1 (fun i e v he hv => (hA.2 i e v he hv).1)
  clear hA
  obtain ⟨v0, v1, v2, v3, v4, v5, v6, rfl, g0, g1, g2, g3, g4, g5, g6⟩ := rA_7 hG
  clear hG
  obtain ⟨x0, rfl, b0, d0⟩ := rG_ref (by decide) g0
  obtain ⟨x1, rfl, b1, d1⟩ := aG_int g1
  dsimp only at b1 d1
  obtain ⟨x2, rfl, b2, d2⟩ := aG_int g2
  dsimp only at b2 d2
  obtain ⟨x3, rfl, b3, d3⟩ := aG_int g3
  dsimp only at b3 d3
  obtain ⟨x4, rfl, b4, d4⟩ := aG_int g4
  dsimp only at b4 d4
  obtain ⟨x5, rfl, b5, d5⟩ := rG_ref (by decide) g5
  obtain ⟨x6, rfl, b6, d6⟩ := aG_int g6
  dsimp only at b6 d6
  obtain ⟨m1, m2, m3, m4⟩ := hM0
  obtain ⟨M, hM⟩ := rMe_ex hH b0 d0
  obtain ⟨a0, c0, fs0, w0, e1, s0, t0, e4⟩ := m1 (0, 2, 5) (List.mem_of_getElem? (i := 0) rfl)
  obtain rfl : x0 = a0 := Sum.inl.inj (Option.some.inj (Sum.inr.inj (Sum.inr.inj (Option.some.inj (show some (rR x0) = some _ from e1)))))
  obtain rfl : rR x5 = w0 := Option.some.inj (show some (rR x5) = some w0 from e4)
  clear e1 e4
  obtain ⟨a1, c1, fs1, w1, e1, s1, t1, e4⟩ := m1 (0, 3, 6) (List.mem_of_getElem? (i := 1) rfl)
  obtain rfl : x0 = a1 := Sum.inl.inj (Option.some.inj (Sum.inr.inj (Sum.inr.inj (Option.some.inj (show some (rR x0) = some _ from e1)))))
  obtain rfl : rI x6 = w1 := Option.some.inj (show some (rI x6) = some w1 from e4)
  clear e1 e4
  obtain ⟨a, mc0, ty0, gc0, ic0, e1, sc0, jc0, e4, e5⟩ := m2 (5, ([(3, 1)], 0), 4) (List.mem_of_getElem? (i := 0) rfl)
  obtain rfl : x5 = a := Sum.inl.inj (Option.some.inj (Sum.inr.inj (Sum.inr.inj (Option.some.inj (show some (rR x5) = some _ from e1)))))
  obtain ⟨gc0, rfl⟩ : ∃ g, gc0 = .inl g := by
    rcases gc0 with g | g
    · exact ⟨g, rfl⟩
    · exact absurd (show some (rI x4) = some (.inr (.inl (g ic0))) from e5) (fun h => by cases h)
  have sc0 : σ x5 = .inl (ty0, mc0, .inl gc0) := sc0
  have ec0 : x4 = gc0 ic0 := Sum.inl.inj (Option.some.inj (show some (rI x4) = some _ from e5))
  have kc0 : (ic0 : Int) = (1 * x3.toInt + 0) + 0 := by
    obtain ⟨z, e6, e7⟩ := e4
    obtain rfl : (1 * x3.toInt + 0) = z := Option.some.inj (show some (1 * x3.toInt + 0) = some z from e6)
    exact e7
  clear e1 e4 e5
  have l0 : 0 ≤ (1 * x3.toInt + 0) + -57 := by
    obtain ⟨z, e6, e7⟩ := m3 ([(3, 1)], -57) (List.mem_of_getElem? (i := 0) rfl)
    obtain rfl : (1 * x3.toInt + 0) = z := Option.some.inj (show some (1 * x3.toInt + 0) = some z from e6)
    exact e7
  have l1 : 0 ≤ (-1 * x3.toInt + 0) + 59 := by
    obtain ⟨z, e6, e7⟩ := m3 ([(3, -1)], 59) (List.mem_of_getElem? (i := 1) rfl)
    obtain rfl : (-1 * x3.toInt + 0) = z := Option.some.inj (show some (-1 * x3.toInt + 0) = some z from e6)
    exact e7
  have y0 : M x3.toInt = x4.toInt := rMg_c hM s0 t0 sc0 (by omega) (by omega) (by omega) ec0
  have f0 : rB K n p 22 [rR x0] σ := by
    obtain ⟨w, e6, e7⟩ := m4 (353, [0]) (List.mem_of_getElem? (i := 0) rfl)
    obtain rfl : [rR x0] = w := Option.some.inj (show some [rR x0] = some w from e6)
    exact (rF_b (r := 353) (by decide) rfl).mp e7
  obtain ⟨hp, hR⟩ := ro_22.mp f0
  obtain rfl := rMg_u hM hR.1
  have uS : p.1.2.1 = x6.toInt := rRX_f hR.2.1 s1 t1
  clear m1 m2 m3 m4
  have q0 : rB K n p 32 [rI x1, rI x2] σ := ro_32.mpr (by
    refine Or.inr ⟨by omega, fun h => ?_⟩
    have h1 := h.2.1 x3.toInt (by rw [if_neg (by omega)]; omega) (by rw [if_neg (by omega)]; omega)
    omega)
  exact ⟨p, fun _ => rfl, ⟨(fun q h => by cases h), fun q h => (by cases h), (fun f h => by cases h), (aAllc ⟨_, rfl, (rF_b (r := 514) (by decide) rfl).mpr q0⟩ (fun f h => by cases h))⟩, [], List.mem_cons_self, fun f h => (by cases h)⟩
theorem rw_rvMCc01 {K : Nat → Nat} {n : Nat} {JX : (Nat → jcell) → Prop} : aGho (rF K n) fa_T K n JX ag_rvMCc01 := by
  refine aGho_of ⟨rfl, rfl⟩ ?_
  intro p σ ρ hH hX hA hM0
  have hG := aAG_of hA.1 (fun i e v he hv => (hA.2 i e v he hv).1)
  clear hA
  obtain ⟨v0, v1, v2, v3, v4, v5, rfl, g0, g1, g2, g3, g4, g5⟩ := rA_6 hG
  clear hG
  obtain ⟨x0, rfl, b0, d0⟩ := rG_ref (by decide) g0
  obtain ⟨x1, rfl, b1, d1⟩ := aG_int g1
  dsimp only at b1 d1
  obtain ⟨x2, rfl, b2, d2⟩ := aG_int g2
  dsimp only at b2 d2
  obtain ⟨x3, rfl, b3, d3⟩ := aG_int g3
  dsimp only at b3 d3
  obtain ⟨x4, rfl, b4, d4⟩ := aG_int g4
  dsimp only at b4 d4
  obtain ⟨x5, rfl, b5, d5⟩ := aG_int g5
  dsimp only at b5 d5
  obtain ⟨m1, m2, m3, m4⟩ := hM0
  obtain ⟨M, hM⟩ := rMe_ex hH b0 d0
  obtain ⟨a0, c0, fs0, w0, e1, s0, t0, e4⟩ := m1 (0, 3, 5) (List.mem_of_getElem? (i := 0) rfl)
  obtain rfl : x0 = a0 := Sum.inl.inj (Option.some.inj (Sum.inr.inj (Sum.inr.inj (Option.some.inj (show some (rR x0) = some _ from e1)))))
  obtain rfl : rI x5 = w0 := Option.some.inj (show some (rI x5) = some w0 from e4)
  clear e1 e4
  have f0 : rB K n p 22 [rR x0] σ := by
    obtain ⟨w, e6, e7⟩ := m4 (353, [0]) (List.mem_of_getElem? (i := 0) rfl)
    obtain rfl : [rR x0] = w := Option.some.inj (show some [rR x0] = some w from e6)
    exact (rF_b (r := 353) (by decide) rfl).mp e7
  obtain ⟨hp, hR⟩ := ro_22.mp f0
  obtain rfl := rMg_u hM hR.1
  have uS : p.1.2.1 = x5.toInt := rRX_f hR.2.1 s0 t0
  have f1 : rB K n p 140 [rR x0, rI x3, rI x4] σ := by
    obtain ⟨w, e6, e7⟩ := m4 (2243, [0, 3, 4]) (List.mem_of_getElem? (i := 1) rfl)
    obtain rfl : [rR x0, rI x3, rI x4] = w := Option.some.inj (show some [rR x0, rI x3, rI x4] = some w from e6)
    exact (rF_b (r := 2243) (by decide) rfl).mp e7
  obtain ⟨M9, h9, f1⟩ := ro_140.mp f1
  obtain rfl := rMg_u hM h9
  clear h9
  clear m1 m2 m3 m4
  have q0 : rB K n p 32 [rI x1, rI x2] σ := ro_32.mpr (by
    obtain ⟨s, h1, h2⟩ := f1
    refine Or.inr ⟨by omega, fun h => h.2.2.1 ⟨s, ?_, ?_⟩⟩
    · rw [show p.1.2.1 = x3.toInt by omega]; exact h1
    · rw [show p.1.2.1 = x3.toInt by omega]
      rcases h2 with h2 | h2
      · exact h2.2
      · have := h2.1; omega)
  exact ⟨p, fun _ => rfl, ⟨(fun q h => by cases h), fun q h => (by cases h), (fun f h => by cases h), (aAllc ⟨_, rfl, (rF_b (r := 514) (by decide) rfl).mpr q0⟩ (fun f h => by cases h))⟩, [], List.mem_cons_self, fun f h => (by cases h)⟩
theorem rw_rvMCa01 {K : Nat → Nat} {n : Nat} {JX : (Nat → jcell) → Prop} : aGho (rF K n) fa_T K n JX ag_rvMCa01 := by
  refine aGho_of ⟨rfl, rfl⟩ ?_
  intro p σ ρ hH hX hA hM0
  have hG := aAG_of hA.1 (fun i e v he hv => (hA.2 i e v he hv).1)
  clear hA
  obtain ⟨v0, v1, v2, v3, v4, v5, v6, rfl, g0, g1, g2, g3, g4, g5, g6⟩ := rA_7 hG
  clear hG
  obtain ⟨x0, rfl, b0, d0⟩ := rG_ref (by decide) g0
  obtain ⟨x1, rfl, b1, d1⟩ := aG_int g1
  dsimp only at b1 d1
  obtain ⟨x2, rfl, b2, d2⟩ := aG_int g2
  dsimp only at b2 d2
  obtain ⟨x3, rfl, b3, d3⟩ := aG_int g3
  dsimp only at b3 d3
  obtain ⟨x4, rfl, b4, d4⟩ := aG_int g4
  dsimp only at b4 d4
  obtain ⟨x5, rfl, b5, d5⟩ := aG_int g5
  dsimp only at b5 d5
  obtain ⟨x6, rfl, b6, d6⟩ := aG_int g6
  dsimp only at b6 d6
  obtain ⟨m1, m2, m3, m4⟩ := hM0
  obtain ⟨M, hM⟩ := rMe_ex hH b0 d0
  obtain ⟨a0, c0, fs0, w0, e1, s0, t0, e4⟩ := m1 (0, 3, 6) (List.mem_of_getElem? (i := 0) rfl)
  obtain rfl : x0 = a0 := Sum.inl.inj (Option.some.inj (Sum.inr.inj (Sum.inr.inj (Option.some.inj (show some (rR x0) = some _ from e1)))))
  obtain rfl : rI x6 = w0 := Option.some.inj (show some (rI x6) = some w0 from e4)
  clear e1 e4
  have f0 : rB K n p 22 [rR x0] σ := by
    obtain ⟨w, e6, e7⟩ := m4 (353, [0]) (List.mem_of_getElem? (i := 0) rfl)
    obtain rfl : [rR x0] = w := Option.some.inj (show some [rR x0] = some w from e6)
    exact (rF_b (r := 353) (by decide) rfl).mp e7
  obtain ⟨hp, hR⟩ := ro_22.mp f0
  obtain rfl := rMg_u hM hR.1
  have uS : p.1.2.1 = x6.toInt := rRX_f hR.2.1 s0 t0
  have f1 : rB K n p 132 [rR x0, rI x3, rI x4, rI x5] σ := by
    obtain ⟨w, e6, e7⟩ := m4 (2116, [0, 3, 4, 5]) (List.mem_of_getElem? (i := 1) rfl)
    obtain rfl : [rR x0, rI x3, rI x4, rI x5] = w := Option.some.inj (show some [rR x0, rI x3, rI x4, rI x5] = some w from e6)
    exact (rF_b (r := 2116) (by decide) rfl).mp e7
  obtain ⟨M9, h9, f1⟩ := ro_132.mp f1
  obtain rfl := rMg_u hM h9
  clear h9
  clear m1 m2 m3 m4
  have q0 : rB K n p 32 [rI x1, rI x2] σ := ro_32.mpr (by
    refine Or.inr ⟨by omega, fun h => h.2.2.2 ?_⟩
    rw [show 56 * p.1.2.1 + (if x1.toInt = 1 then 5 else 3) = x3.toInt by rw [if_neg (by omega)]; omega, show 1 - p.1.2.1 = x4.toInt by omega]
    rcases f1 with h1 | h1
    · exact h1.2
    · have := h1.1; omega)
  exact ⟨p, fun _ => rfl, ⟨(fun q h => by cases h), fun q h => (by cases h), (fun f h => by cases h), (aAllc ⟨_, rfl, (rF_b (r := 514) (by decide) rfl).mpr q0⟩ (fun f h => by cases h))⟩, [], List.mem_cons_self, fun f h => (by cases h)⟩
theorem rw_rvMCy01 {K : Nat → Nat} {n : Nat} {JX : (Nat → jcell) → Prop} : aGho (rF K n) fa_T K n JX ag_rvMCy01 := by
  refine aGho_of ⟨rfl, rfl⟩ ?_
  intro p σ ρ hH hX hA hM0
  have hG := aAG_of hA.1 (fun i e v he hv => (hA.2 i e v he hv).1)
  clear hA
  obtain ⟨v0, v1, v2, v3, v4, v5, v6, v7, v8, v9, rfl, g0, g1, g2, g3, g4, g5, g6, g7, g8, g9⟩ := rA_10 hG
  clear hG
  obtain ⟨x0, rfl, b0, d0⟩ := rG_ref (by decide) g0
  obtain ⟨x1, rfl, b1, d1⟩ := aG_int g1
  dsimp only at b1 d1
  obtain ⟨x2, rfl, b2, d2⟩ := aG_int g2
  dsimp only at b2 d2
  obtain ⟨x3, rfl, b3, d3⟩ := aG_int g3
  dsimp only at b3 d3
  obtain ⟨x4, rfl, b4, d4⟩ := aG_int g4
  dsimp only at b4 d4
  obtain ⟨x5, rfl, b5, d5⟩ := aG_int g5
  dsimp only at b5 d5
  obtain ⟨x6, rfl, b6, d6⟩ := aG_int g6
  dsimp only at b6 d6
  obtain ⟨x7, rfl, b7, d7⟩ := aG_int g7
  dsimp only at b7 d7
  obtain ⟨x8, rfl, b8, d8⟩ := aG_int g8
  dsimp only at b8 d8
  obtain ⟨x9, rfl, b9, d9⟩ := aG_int g9
  dsimp only at b9 d9
  obtain ⟨m1, m2, m3, m4⟩ := hM0
  obtain ⟨M, hM⟩ := rMe_ex hH b0 d0
  obtain ⟨a0, c0, fs0, w0, e1, s0, t0, e4⟩ := m1 (0, 3, 9) (List.mem_of_getElem? (i := 0) rfl)
  obtain rfl : x0 = a0 := Sum.inl.inj (Option.some.inj (Sum.inr.inj (Sum.inr.inj (Option.some.inj (show some (rR x0) = some _ from e1)))))
  obtain rfl : rI x9 = w0 := Option.some.inj (show some (rI x9) = some w0 from e4)
  clear e1 e4
  have f0 : rB K n p 22 [rR x0] σ := by
    obtain ⟨w, e6, e7⟩ := m4 (353, [0]) (List.mem_of_getElem? (i := 0) rfl)
    obtain rfl : [rR x0] = w := Option.some.inj (show some [rR x0] = some w from e6)
    exact (rF_b (r := 353) (by decide) rfl).mp e7
  obtain ⟨hp, hR⟩ := ro_22.mp f0
  obtain rfl := rMg_u hM hR.1
  have uS : p.1.2.1 = x9.toInt := rRX_f hR.2.1 s0 t0
  have f1 : rB K n p 45 [rI x1] σ := by
    obtain ⟨w, e6, e7⟩ := m4 (721, [1]) (List.mem_of_getElem? (i := 1) rfl)
    obtain rfl : [rI x1] = w := Option.some.inj (show some [rI x1] = some w from e6)
    exact (rF_b (r := 721) (by decide) rfl).mp e7
  have f1 := ro_45.mp f1
  have f2 : rB K n p 33 [rI x1, rI x3] σ := by
    obtain ⟨w, e6, e7⟩ := m4 (530, [1, 3]) (List.mem_of_getElem? (i := 2) rfl)
    obtain rfl : [rI x1, rI x3] = w := Option.some.inj (show some [rI x1, rI x3] = some w from e6)
    exact (rF_b (r := 530) (by decide) rfl).mp e7
  have f2 := ro_33.mp f2
  have f3 : rB K n p 140 [rR x0, rI x4, rI x5] σ := by
    obtain ⟨w, e6, e7⟩ := m4 (2243, [0, 4, 5]) (List.mem_of_getElem? (i := 3) rfl)
    obtain rfl : [rR x0, rI x4, rI x5] = w := Option.some.inj (show some [rR x0, rI x4, rI x5] = some w from e6)
    exact (rF_b (r := 2243) (by decide) rfl).mp e7
  obtain ⟨M9, h9, f3⟩ := ro_140.mp f3
  obtain rfl := rMg_u hM h9
  clear h9
  have f4 : rB K n p 132 [rR x0, rI x6, rI x7, rI x8] σ := by
    obtain ⟨w, e6, e7⟩ := m4 (2116, [0, 6, 7, 8]) (List.mem_of_getElem? (i := 4) rfl)
    obtain rfl : [rR x0, rI x6, rI x7, rI x8] = w := Option.some.inj (show some [rR x0, rI x6, rI x7, rI x8] = some w from e6)
    exact (rF_b (r := 2116) (by decide) rfl).mp e7
  obtain ⟨M9, h9, f4⟩ := ro_132.mp f4
  obtain rfl := rMg_u hM h9
  clear h9
  clear m1 m2 m3 m4
  have q0 : rB K n p 32 [rI x1, rI x2] σ := ro_32.mpr (by
    refine Or.inl ⟨by omega, f1, fun j h1 h2 => f2 j h1 (by rw [if_neg (by omega)] at h2; omega), ?_, ?_⟩
    · rintro ⟨s, h1, h2⟩
      obtain ⟨s', h3, h4⟩ := f3
      rw [show p.1.2.1 = x4.toInt by omega] at h1 h2
      obtain rfl := rKg_u h1 h3
      rcases h4 with h4 | h4
      · have := h4.1; omega
      · exact h4.2 h2
    · rw [show 56 * p.1.2.1 + (if x1.toInt = 1 then 5 else 3) = x6.toInt by rw [if_neg (by omega)]; omega, show 1 - p.1.2.1 = x7.toInt by omega]
      rcases f4 with h1 | h1
      · have := h1.1; omega
      · exact h1.2)
  exact ⟨p, fun _ => rfl, ⟨(fun q h => by cases h), fun q h => (by cases h), (fun f h => by cases h), (aAllc ⟨_, rfl, (rF_b (r := 514) (by decide) rfl).mpr q0⟩ (fun f h => by cases h))⟩, [], List.mem_cons_self, fun f h => (by cases h)⟩
theorem rw_rvEPn {K : Nat → Nat} {n : Nat} {JX : (Nat → jcell) → Prop} : aGho (rF K n) fa_T K n JX ag_rvEPn := by
  refine aGho_of ⟨rfl, rfl⟩ ?_
  intro p σ ρ hH hX hA hM0
  have hG := aAG_of hA.1 (fun i e v he hv => (hA.2 i e v he hv).1)
  clear hA
  obtain ⟨v0, v1, v2, v3, v4, v5, rfl, g0, g1, g2, g3, g4, g5⟩ := rA_6 hG
  clear hG
  obtain ⟨x0, rfl, b0, d0⟩ := rG_ref (by decide) g0
  obtain ⟨x1, rfl, b1, d1⟩ := aG_int g1
  dsimp only at b1 d1
  obtain ⟨x2, rfl, b2, d2⟩ := aG_int g2
  dsimp only at b2 d2
  obtain ⟨x3, rfl, b3, d3⟩ := aG_int g3
  dsimp only at b3 d3
  obtain ⟨x4, rfl, b4, d4⟩ := aG_int g4
  dsimp only at b4 d4
  obtain ⟨x5, rfl, b5, d5⟩ := rG_ref (by decide) g5
  obtain ⟨m1, m2, m3, m4⟩ := hM0
  obtain ⟨M, hM⟩ := rMe_ex hH b0 d0
  obtain ⟨a0, c0, fs0, w0, e1, s0, t0, e4⟩ := m1 (0, 2, 5) (List.mem_of_getElem? (i := 0) rfl)
  obtain rfl : x0 = a0 := Sum.inl.inj (Option.some.inj (Sum.inr.inj (Sum.inr.inj (Option.some.inj (show some (rR x0) = some _ from e1)))))
  obtain rfl : rR x5 = w0 := Option.some.inj (show some (rR x5) = some w0 from e4)
  clear e1 e4
  obtain ⟨a, mc0, ty0, gc0, ic0, e1, sc0, jc0, e4, e5⟩ := m2 (5, ([(2, 1)], 0), 3) (List.mem_of_getElem? (i := 0) rfl)
  obtain rfl : x5 = a := Sum.inl.inj (Option.some.inj (Sum.inr.inj (Sum.inr.inj (Option.some.inj (show some (rR x5) = some _ from e1)))))
  obtain ⟨gc0, rfl⟩ : ∃ g, gc0 = .inl g := by
    rcases gc0 with g | g
    · exact ⟨g, rfl⟩
    · exact absurd (show some (rI x3) = some (.inr (.inl (g ic0))) from e5) (fun h => by cases h)
  have sc0 : σ x5 = .inl (ty0, mc0, .inl gc0) := sc0
  have ec0 : x3 = gc0 ic0 := Sum.inl.inj (Option.some.inj (show some (rI x3) = some _ from e5))
  have kc0 : (ic0 : Int) = (1 * x2.toInt + 0) + 0 := by
    obtain ⟨z, e6, e7⟩ := e4
    obtain rfl : (1 * x2.toInt + 0) = z := Option.some.inj (show some (1 * x2.toInt + 0) = some z from e6)
    exact e7
  clear e1 e4 e5
  have l0 : 0 ≤ (1 * x4.toInt + (-1 * x2.toInt + 0)) + -1 := by
    obtain ⟨z, e6, e7⟩ := m3 ([(4, 1), (2, -1)], -1) (List.mem_of_getElem? (i := 0) rfl)
    obtain rfl : (1 * x4.toInt + (-1 * x2.toInt + 0)) = z := Option.some.inj (show some (1 * x4.toInt + (-1 * x2.toInt + 0)) = some z from e6)
    exact e7
  have l1 : 0 ≤ (-1 * x4.toInt + (1 * x2.toInt + 0)) + 1 := by
    obtain ⟨z, e6, e7⟩ := m3 ([(4, -1), (2, 1)], 1) (List.mem_of_getElem? (i := 1) rfl)
    obtain rfl : (-1 * x4.toInt + (1 * x2.toInt + 0)) = z := Option.some.inj (show some (-1 * x4.toInt + (1 * x2.toInt + 0)) = some z from e6)
    exact e7
  have y0 : M x2.toInt = x3.toInt := rMg_c hM s0 t0 sc0 (by omega) (by omega) (by omega) ec0
  have f0 : rB K n p 22 [rR x0] σ := by
    obtain ⟨w, e6, e7⟩ := m4 (353, [0]) (List.mem_of_getElem? (i := 0) rfl)
    obtain rfl : [rR x0] = w := Option.some.inj (show some [rR x0] = some w from e6)
    exact (rF_b (r := 353) (by decide) rfl).mp e7
  obtain ⟨hp, hR⟩ := ro_22.mp f0
  obtain rfl := rMg_u hM hR.1
  have f1 : rB K n p 33 [rI x1, rI x2] σ := by
    obtain ⟨w, e6, e7⟩ := m4 (530, [1, 2]) (List.mem_of_getElem? (i := 1) rfl)
    obtain rfl : [rI x1, rI x2] = w := Option.some.inj (show some [rI x1, rI x2] = some w from e6)
    exact (rF_b (r := 530) (by decide) rfl).mp e7
  have f1 := ro_33.mp f1
  clear m1 m2 m3 m4
  have q0 : rB K n p 33 [rI x1, rI x4] σ := ro_33.mpr (by
    intro j h1 h2
    by_cases c : j = x2.toInt
    · rw [c]; omega
    · exact f1 j h1 (by omega))
  exact ⟨p, fun _ => rfl, ⟨(fun q h => by cases h), fun q h => (by cases h), (fun f h => by cases h), (aAllc ⟨_, rfl, (rF_b (r := 530) (by decide) rfl).mpr q0⟩ (fun f h => by cases h))⟩, [], List.mem_cons_self, fun f h => (by cases h)⟩
theorem rw_rvCE {K : Nat → Nat} {n : Nat} {JX : (Nat → jcell) → Prop} : aGho (rF K n) fa_T K n JX ag_rvCE := by
  refine aGho_of ⟨rfl, rfl⟩ ?_
  intro p σ ρ hH hX hA hM0
  have hG := aAG_of hA.1 (fun i e v he hv => (hA.2 i e v he hv).1)
  clear hA
  obtain ⟨v0, v1, v2, v3, rfl, g0, g1, g2, g3⟩ := rA_4 hG
  clear hG
  obtain ⟨x0, rfl, b0, d0⟩ := rG_ref (by decide) g0
  obtain ⟨x1, rfl, b1, d1⟩ := aG_int g1
  dsimp only at b1 d1
  obtain ⟨x2, rfl, b2, d2⟩ := aG_int g2
  dsimp only at b2 d2
  obtain ⟨x3, rfl, b3, d3⟩ := rG_ref (by decide) g3
  obtain ⟨m1, m2, m3, m4⟩ := hM0
  obtain ⟨M, hM⟩ := rMe_ex hH b0 d0
  obtain ⟨a0, c0, fs0, w0, e1, s0, t0, e4⟩ := m1 (0, 2, 3) (List.mem_of_getElem? (i := 0) rfl)
  obtain rfl : x0 = a0 := Sum.inl.inj (Option.some.inj (Sum.inr.inj (Sum.inr.inj (Option.some.inj (show some (rR x0) = some _ from e1)))))
  obtain rfl : rR x3 = w0 := Option.some.inj (show some (rR x3) = some w0 from e4)
  clear e1 e4
  obtain ⟨a, mc0, ty0, gc0, ic0, e1, sc0, jc0, e4, e5⟩ := m2 (3, ([(1, 1)], 0), 2) (List.mem_of_getElem? (i := 0) rfl)
  obtain rfl : x3 = a := Sum.inl.inj (Option.some.inj (Sum.inr.inj (Sum.inr.inj (Option.some.inj (show some (rR x3) = some _ from e1)))))
  obtain ⟨gc0, rfl⟩ : ∃ g, gc0 = .inl g := by
    rcases gc0 with g | g
    · exact ⟨g, rfl⟩
    · exact absurd (show some (rI x2) = some (.inr (.inl (g ic0))) from e5) (fun h => by cases h)
  have sc0 : σ x3 = .inl (ty0, mc0, .inl gc0) := sc0
  have ec0 : x2 = gc0 ic0 := Sum.inl.inj (Option.some.inj (show some (rI x2) = some _ from e5))
  have kc0 : (ic0 : Int) = (1 * x1.toInt + 0) + 0 := by
    obtain ⟨z, e6, e7⟩ := e4
    obtain rfl : (1 * x1.toInt + 0) = z := Option.some.inj (show some (1 * x1.toInt + 0) = some z from e6)
    exact e7
  clear e1 e4 e5
  have y0 : M x1.toInt = x2.toInt := rMg_c hM s0 t0 sc0 (by omega) (by omega) (by omega) ec0
  have f0 : rB K n p 22 [rR x0] σ := by
    obtain ⟨w, e6, e7⟩ := m4 (353, [0]) (List.mem_of_getElem? (i := 0) rfl)
    obtain rfl : [rR x0] = w := Option.some.inj (show some [rR x0] = some w from e6)
    exact (rF_b (r := 353) (by decide) rfl).mp e7
  obtain ⟨hp, hR⟩ := ro_22.mp f0
  obtain rfl := rMg_u hM hR.1
  clear m1 m2 m3 m4
  have q0 : rB K n p 37 [rI x1, rI x2] σ := ro_37.mpr (by
    exact y0)
  exact ⟨p, fun _ => rfl, ⟨(fun q h => by cases h), fun q h => (by cases h), (fun f h => by cases h), (aAllc ⟨_, rfl, (rF_b (r := 594) (by decide) rfl).mpr q0⟩ (fun f h => by cases h))⟩, [], List.mem_cons_self, fun f h => (by cases h)⟩
theorem rw_rvPc1 {K : Nat → Nat} {n : Nat} {JX : (Nat → jcell) → Prop} : aGho (rF K n) fa_T K n JX ag_rvPc1 := by
  refine aGho_of ⟨rfl, rfl⟩ ?_
  intro p σ ρ hH hX hA hM0
  have hG := aAG_of hA.1 (fun i e v he hv => (hA.2 i e v he hv).1)
  clear hA
  obtain ⟨v0, v1, v2, v3, v4, v5, rfl, g0, g1, g2, g3, g4, g5⟩ := rA_6 hG
  clear hG
  obtain ⟨x0, rfl, b0, d0⟩ := aG_int g0
  dsimp only at b0 d0
  obtain ⟨x1, rfl, b1, d1⟩ := aG_int g1
  dsimp only at b1 d1
  obtain ⟨x2, rfl, b2, d2⟩ := aG_int g2
  dsimp only at b2 d2
  obtain ⟨x3, rfl⟩ := aG_lng g3
  obtain ⟨x4, rfl⟩ := aG_lng g4
  obtain ⟨x5, rfl⟩ := aG_lng g5
  obtain ⟨m1, m2, m3, m4⟩ := hM0
  have l0 : 0 ≤ (1 * x3.toInt + 0) + 0 := by
    obtain ⟨z, e6, e7⟩ := m3 ([(3, 1)], 0) (List.mem_of_getElem? (i := 0) rfl)
    obtain rfl : (1 * x3.toInt + 0) = z := Option.some.inj (show some (1 * x3.toInt + 0) = some z from e6)
    exact e7
  have l1 : 0 ≤ (-1 * x3.toInt + 0) + 0 := by
    obtain ⟨z, e6, e7⟩ := m3 ([(3, -1)], 0) (List.mem_of_getElem? (i := 1) rfl)
    obtain rfl : (-1 * x3.toInt + 0) = z := Option.some.inj (show some (-1 * x3.toInt + 0) = some z from e6)
    exact e7
  have f0 : rB K n p 35 [rI x0, rI x1] σ := by
    obtain ⟨w, e6, e7⟩ := m4 (562, [0, 1]) (List.mem_of_getElem? (i := 0) rfl)
    obtain rfl : [rI x0, rI x1] = w := Option.some.inj (show some [rI x0, rI x1] = some w from e6)
    exact (rF_b (r := 562) (by decide) rfl).mp e7
  have f0 := ro_35.mp f0
  have f1 : rB K n p 37 [rI x1, rI x2] σ := by
    obtain ⟨w, e6, e7⟩ := m4 (594, [1, 2]) (List.mem_of_getElem? (i := 1) rfl)
    obtain rfl : [rI x1, rI x2] = w := Option.some.inj (show some [rI x1, rI x2] = some w from e6)
    exact (rF_b (r := 594) (by decide) rfl).mp e7
  have f1 := ro_37.mp f1
  have f2 : rB K n p 141 [rI x1, rL x4] σ := by
    obtain ⟨w, e6, e7⟩ := m4 (2258, [1, 4]) (List.mem_of_getElem? (i := 2) rfl)
    obtain rfl : [rI x1, rL x4] = w := Option.some.inj (show some [rI x1, rL x4] = some w from e6)
    exact (rF_b (r := 2258) (by decide) rfl).mp e7
  have f2 := ro_141.mp f2
  have f3 : rB K n p 100 [rL x3, rL x4, rL x5] σ := by
    obtain ⟨w, e6, e7⟩ := m4 (1603, [3, 4, 5]) (List.mem_of_getElem? (i := 3) rfl)
    obtain rfl : [rL x3, rL x4, rL x5] = w := Option.some.inj (show some [rL x3, rL x4, rL x5] = some w from e6)
    exact (rF_b (r := 1603) (by decide) rfl).mp e7
  have f3 : x5 = x3 ||| x4 := Sum.inl.inj (Sum.inr.inj (ro_100.mp f3))
  clear m1 m2 m3 m4
  have q0 : rB K n p 38 [rI x0, rI x1, rL x5] σ := ro_38.mpr (by
    have e : x3 = 0 := Int64.toInt_inj.mp (by rw [show (0 : Int64).toInt = 0 from rfl]; omega)
    refine ⟨f0, by omega, fun u h1 h2 => ?_⟩
    rw [f3, rBt_or, f2 u h1 h2, e]
    exact ⟨fun h => h.resolve_left rBt_0, Or.inr⟩)
  exact ⟨p, fun _ => rfl, ⟨(fun q h => by cases h), fun q h => (by cases h), (fun f h => by cases h), (aAllc ⟨_, rfl, (rF_b (r := 611) (by decide) rfl).mpr q0⟩ (fun f h => by cases h))⟩, [], List.mem_cons_self, fun f h => (by cases h)⟩
theorem rw_rvRK {K : Nat → Nat} {n : Nat} {JX : (Nat → jcell) → Prop} : aGho (rF K n) fa_T K n JX ag_rvRK := by
  refine aGho_of ⟨rfl, rfl⟩ ?_
  intro p σ ρ hH hX hA hM0
  have hG := aAG_of hA.1 (fun i e v he hv => (hA.2 i e v he hv).1)
  clear hA
  obtain ⟨v0, v1, v2, rfl, g0, g1, g2⟩ := rA_3 hG
  clear hG
  obtain ⟨x0, rfl, b0, d0⟩ := aG_int g0
  dsimp only at b0 d0
  obtain ⟨x1, rfl, b1, d1⟩ := aG_int g1
  dsimp only at b1 d1
  obtain ⟨x2, rfl, b2, d2⟩ := aG_int g2
  dsimp only at b2 d2
  obtain ⟨m1, m2, m3, m4⟩ := hM0
  have l0 : 0 ≤ (1 * x1.toInt + 0) + -3 := by
    obtain ⟨z, e6, e7⟩ := m3 ([(1, 1)], -3) (List.mem_of_getElem? (i := 0) rfl)
    obtain rfl : (1 * x1.toInt + 0) = z := Option.some.inj (show some (1 * x1.toInt + 0) = some z from e6)
    exact e7
  have l1 : 0 ≤ (-1 * x1.toInt + 0) + 3 := by
    obtain ⟨z, e6, e7⟩ := m3 ([(1, -1)], 3) (List.mem_of_getElem? (i := 1) rfl)
    obtain rfl : (-1 * x1.toInt + 0) = z := Option.some.inj (show some (-1 * x1.toInt + 0) = some z from e6)
    exact e7
  have f0 : rB K n p 114 [rI x0, rI x1, rI x2] σ := by
    obtain ⟨w, e6, e7⟩ := m4 (1827, [0, 1, 2]) (List.mem_of_getElem? (i := 0) rfl)
    obtain rfl : [rI x0, rI x1, rI x2] = w := Option.some.inj (show some [rI x0, rI x1, rI x2] = some w from e6)
    exact (rF_b (r := 1827) (by decide) rfl).mp e7
  have f0 : x2 = x0 >>> (x1 &&& 31) := Sum.inl.inj (ro_114.mp f0)
  clear m1 m2 m3 m4
  have q0 : rB K n p 157 [rI x0, rI x2] σ := ro_157.mpr (by
    exact rShr3 f0 (by omega) (by omega) (by omega))
  exact ⟨p, fun _ => rfl, ⟨(fun q h => by cases h), fun q h => (by cases h), (fun f h => by cases h), (aAllc ⟨_, rfl, (rF_b (r := 2514) (by decide) rfl).mpr q0⟩ (fun f h => by cases h))⟩, [], List.mem_cons_self, fun f h => (by cases h)⟩
theorem rw_rvPa {K : Nat → Nat} {n : Nat} {JX : (Nat → jcell) → Prop} : aGho (rF K n) fa_T K n JX ag_rvPa := by
  refine aGho_of ⟨rfl, rfl⟩ ?_
  intro p σ ρ hH hX hA hM0
  have hG := aAG_of hA.1 (fun i e v he hv => (hA.2 i e v he hv).1)
  clear hA
  obtain ⟨v0, v1, v2, rfl, g0, g1, g2⟩ := rA_3 hG
  clear hG
  obtain ⟨x0, rfl, b0, d0⟩ := aG_int g0
  dsimp only at b0 d0
  obtain ⟨x1, rfl, b1, d1⟩ := aG_int g1
  dsimp only at b1 d1
  obtain ⟨x2, rfl⟩ := aG_lng g2
  obtain ⟨m1, m2, m3, m4⟩ := hM0
  have l0 : 0 ≤ (1 * x2.toInt + 0) + 0 := by
    obtain ⟨z, e6, e7⟩ := m3 ([(2, 1)], 0) (List.mem_of_getElem? (i := 0) rfl)
    obtain rfl : (1 * x2.toInt + 0) = z := Option.some.inj (show some (1 * x2.toInt + 0) = some z from e6)
    exact e7
  have l1 : 0 ≤ (-1 * x2.toInt + 0) + 0 := by
    obtain ⟨z, e6, e7⟩ := m3 ([(2, -1)], 0) (List.mem_of_getElem? (i := 1) rfl)
    obtain rfl : (-1 * x2.toInt + 0) = z := Option.some.inj (show some (-1 * x2.toInt + 0) = some z from e6)
    exact e7
  have f0 : rB K n p 35 [rI x0, rI x1] σ := by
    obtain ⟨w, e6, e7⟩ := m4 (562, [0, 1]) (List.mem_of_getElem? (i := 0) rfl)
    obtain rfl : [rI x0, rI x1] = w := Option.some.inj (show some [rI x0, rI x1] = some w from e6)
    exact (rF_b (r := 562) (by decide) rfl).mp e7
  have f0 := ro_35.mp f0
  clear m1 m2 m3 m4
  have q0 : rB K n p 39 [rI x0, rL x2] σ := ro_39.mpr (by
    have e : x2 = 0 := Int64.toInt_inj.mp (by rw [show (0 : Int64).toInt = 0 from rfl]; omega)
    intro u h1 h2
    rw [e]
    refine ⟨fun h => absurd h rBt_0, fun h => ?_⟩
    have h3 := h.1
    rw [← f0] at h3
    omega)
  exact ⟨p, fun _ => rfl, ⟨(fun q h => by cases h), fun q h => (by cases h), (fun f h => by cases h), (aAllc ⟨_, rfl, (rF_b (r := 626) (by decide) rfl).mpr q0⟩ (fun f h => by cases h))⟩, [], List.mem_cons_self, fun f h => (by cases h)⟩
theorem rw_rvPb {K : Nat → Nat} {n : Nat} {JX : (Nat → jcell) → Prop} : aGho (rF K n) fa_T K n JX ag_rvPb := by
  refine aGho_of ⟨rfl, rfl⟩ ?_
  intro p σ ρ hH hX hA hM0
  have hG := aAG_of hA.1 (fun i e v he hv => (hA.2 i e v he hv).1)
  clear hA
  obtain ⟨v0, v1, v2, v3, rfl, g0, g1, g2, g3⟩ := rA_4 hG
  clear hG
  obtain ⟨x0, rfl, b0, d0⟩ := aG_int g0
  dsimp only at b0 d0
  obtain ⟨x1, rfl, b1, d1⟩ := aG_int g1
  dsimp only at b1 d1
  obtain ⟨x2, rfl, b2, d2⟩ := aG_int g2
  dsimp only at b2 d2
  obtain ⟨x3, rfl⟩ := aG_lng g3
  obtain ⟨m1, m2, m3, m4⟩ := hM0
  have l0 : 0 ≤ (1 * x3.toInt + 0) + 0 := by
    obtain ⟨z, e6, e7⟩ := m3 ([(3, 1)], 0) (List.mem_of_getElem? (i := 0) rfl)
    obtain rfl : (1 * x3.toInt + 0) = z := Option.some.inj (show some (1 * x3.toInt + 0) = some z from e6)
    exact e7
  have l1 : 0 ≤ (-1 * x3.toInt + 0) + 0 := by
    obtain ⟨z, e6, e7⟩ := m3 ([(3, -1)], 0) (List.mem_of_getElem? (i := 1) rfl)
    obtain rfl : (-1 * x3.toInt + 0) = z := Option.some.inj (show some (-1 * x3.toInt + 0) = some z from e6)
    exact e7
  have f0 : rB K n p 35 [rI x0, rI x1] σ := by
    obtain ⟨w, e6, e7⟩ := m4 (562, [0, 1]) (List.mem_of_getElem? (i := 0) rfl)
    obtain rfl : [rI x0, rI x1] = w := Option.some.inj (show some [rI x0, rI x1] = some w from e6)
    exact (rF_b (r := 562) (by decide) rfl).mp e7
  have f0 := ro_35.mp f0
  have f1 : rB K n p 37 [rI x1, rI x2] σ := by
    obtain ⟨w, e6, e7⟩ := m4 (594, [1, 2]) (List.mem_of_getElem? (i := 1) rfl)
    obtain rfl : [rI x1, rI x2] = w := Option.some.inj (show some [rI x1, rI x2] = some w from e6)
    exact (rF_b (r := 594) (by decide) rfl).mp e7
  have f1 := ro_37.mp f1
  clear m1 m2 m3 m4
  have q0 : rB K n p 39 [rI x0, rL x3] σ := ro_39.mpr (by
    have e : x3 = 0 := Int64.toInt_inj.mp (by rw [show (0 : Int64).toInt = 0 from rfl]; omega)
    intro u h1 h2
    rw [e]
    refine ⟨fun h => absurd h rBt_0, fun h => ?_⟩
    have h3 := h.2.1
    rw [← f0] at h3
    omega)
  exact ⟨p, fun _ => rfl, ⟨(fun q h => by cases h), fun q h => (by cases h), (fun f h => by cases h), (aAllc ⟨_, rfl, (rF_b (r := 626) (by decide) rfl).mpr q0⟩ (fun f h => by cases h))⟩, [], List.mem_cons_self, fun f h => (by cases h)⟩
theorem rw_rvP30 {K : Nat → Nat} {n : Nat} {JX : (Nat → jcell) → Prop} : aGho (rF K n) fa_T K n JX ag_rvP30 := by
  refine aGho_of ⟨rfl, rfl⟩ ?_
  intro p σ ρ hH hX hA hM0
  have hG := aAG_of hA.1 (fun i e v he hv => (hA.2 i e v he hv).1)
  clear hA
  obtain ⟨v0, v1, v2, rfl, g0, g1, g2⟩ := rA_3 hG
  clear hG
  obtain ⟨x0, rfl, b0, d0⟩ := aG_int g0
  dsimp only at b0 d0
  obtain ⟨x1, rfl, b1, d1⟩ := aG_int g1
  dsimp only at b1 d1
  obtain ⟨x2, rfl⟩ := aG_lng g2
  obtain ⟨m1, m2, m3, m4⟩ := hM0
  have f0 : rB K n p 39 [rI x0, rL x2] σ := by
    obtain ⟨w, e6, e7⟩ := m4 (626, [0, 2]) (List.mem_of_getElem? (i := 0) rfl)
    obtain rfl : [rI x0, rL x2] = w := Option.some.inj (show some [rI x0, rL x2] = some w from e6)
    exact (rF_b (r := 626) (by decide) rfl).mp e7
  have f0 := ro_39.mp f0
  clear m1 m2 m3 m4
  have q0 : rB K n p 40 [rI x0, rI x1, rL x2] σ := ro_40.mpr (by
    refine ⟨by omega, fun u h1 h2 => ?_⟩
    rw [f0 u h1 h2]
    refine ⟨Or.inl, fun h => h.elim id (fun h => ?_)⟩
    obtain ⟨f, h3, h4⟩ := h
    have := h4.1
    omega)
  exact ⟨p, fun _ => rfl, ⟨(fun q h => by cases h), fun q h => (by cases h), (fun f h => by cases h), (aAllc ⟨_, rfl, (rF_b (r := 643) (by decide) rfl).mpr q0⟩ (fun f h => by cases h))⟩, [], List.mem_cons_self, fun f h => (by cases h)⟩
theorem rw_rvTK2 {K : Nat → Nat} {n : Nat} {JX : (Nat → jcell) → Prop} : aGho (rF K n) fa_T K n JX ag_rvTK2 := by
  refine aGho_of ⟨rfl, rfl⟩ ?_
  intro p σ ρ hH hX hA hM0
  have hG := aAG_of hA.1 (fun i e v he hv => (hA.2 i e v he hv).1)
  clear hA
  obtain ⟨v0, v1, v2, rfl, g0, g1, g2⟩ := rA_3 hG
  clear hG
  obtain ⟨x0, rfl, b0, d0⟩ := rG_ref (by decide) g0
  obtain ⟨x1, rfl, b1, d1⟩ := aG_int g1
  dsimp only at b1 d1
  obtain ⟨x2, rfl, b2, d2⟩ := aG_int g2
  dsimp only at b2 d2
  obtain ⟨m1, m2, m3, m4⟩ := hM0
  obtain ⟨M, hM⟩ := rMe_ex hH b0 d0
  obtain ⟨a0, c0, fs0, w0, e1, s0, t0, e4⟩ := m1 (0, 5, 2) (List.mem_of_getElem? (i := 0) rfl)
  obtain rfl : x0 = a0 := Sum.inl.inj (Option.some.inj (Sum.inr.inj (Sum.inr.inj (Option.some.inj (show some (rR x0) = some _ from e1)))))
  obtain rfl : rI x2 = w0 := Option.some.inj (show some (rI x2) = some w0 from e4)
  clear e1 e4
  have l0 : 0 ≤ (1 * x1.toInt + (-1 * x2.toInt + 0)) + 0 := by
    obtain ⟨z, e6, e7⟩ := m3 ([(1, 1), (2, -1)], 0) (List.mem_of_getElem? (i := 0) rfl)
    obtain rfl : (1 * x1.toInt + (-1 * x2.toInt + 0)) = z := Option.some.inj (show some (1 * x1.toInt + (-1 * x2.toInt + 0)) = some z from e6)
    exact e7
  have l1 : 0 ≤ (-1 * x1.toInt + (1 * x2.toInt + 0)) + 0 := by
    obtain ⟨z, e6, e7⟩ := m3 ([(1, -1), (2, 1)], 0) (List.mem_of_getElem? (i := 1) rfl)
    obtain rfl : (-1 * x1.toInt + (1 * x2.toInt + 0)) = z := Option.some.inj (show some (-1 * x1.toInt + (1 * x2.toInt + 0)) = some z from e6)
    exact e7
  have f0 : rB K n p 22 [rR x0] σ := by
    obtain ⟨w, e6, e7⟩ := m4 (353, [0]) (List.mem_of_getElem? (i := 0) rfl)
    obtain rfl : [rR x0] = w := Option.some.inj (show some [rR x0] = some w from e6)
    exact (rF_b (r := 353) (by decide) rfl).mp e7
  obtain ⟨hp, hR⟩ := ro_22.mp f0
  obtain rfl := rMg_u hM hR.1
  have uP : p.1.2.2.2 = x2.toInt := rRX_f hR.2.2.2 s0 t0
  clear m1 m2 m3 m4
  have q0 : rB K n p 42 [rI x1] σ := ro_42.mpr (by
    exact Or.inr (by omega))
  exact ⟨p, fun _ => rfl, ⟨(fun q h => by cases h), fun q h => (by cases h), (fun f h => by cases h), (aAllc ⟨_, rfl, (rF_b (r := 673) (by decide) rfl).mpr q0⟩ (fun f h => by cases h))⟩, [], List.mem_cons_self, fun f h => (by cases h)⟩
theorem rw_rvP3y {K : Nat → Nat} {n : Nat} {JX : (Nat → jcell) → Prop} : aGho (rF K n) fa_T K n JX ag_rvP3y := by
  refine aGho_of ⟨rfl, rfl⟩ ?_
  intro p σ ρ hH hX hA hM0
  have hG := aAG_of hA.1 (fun i e v he hv => (hA.2 i e v he hv).1)
  clear hA
  obtain ⟨v0, v1, v2, v3, v4, v5, rfl, g0, g1, g2, g3, g4, g5⟩ := rA_6 hG
  clear hG
  obtain ⟨x0, rfl, b0, d0⟩ := aG_int g0
  dsimp only at b0 d0
  obtain ⟨x1, rfl, b1, d1⟩ := aG_int g1
  dsimp only at b1 d1
  obtain ⟨x2, rfl, b2, d2⟩ := aG_int g2
  dsimp only at b2 d2
  obtain ⟨x3, rfl⟩ := aG_lng g3
  obtain ⟨x4, rfl⟩ := aG_lng g4
  obtain ⟨x5, rfl⟩ := aG_lng g5
  obtain ⟨m1, m2, m3, m4⟩ := hM0
  have f0 : rB K n p 40 [rI x0, rI x1, rL x3] σ := by
    obtain ⟨w, e6, e7⟩ := m4 (643, [0, 1, 3]) (List.mem_of_getElem? (i := 0) rfl)
    obtain rfl : [rI x0, rI x1, rL x3] = w := Option.some.inj (show some [rI x0, rI x1, rL x3] = some w from e6)
    exact (rF_b (r := 643) (by decide) rfl).mp e7
  have f0 := ro_40.mp f0
  have f1 : rB K n p 46 [rI x0, rI x1, rI x2] σ := by
    obtain ⟨w, e6, e7⟩ := m4 (739, [0, 1, 2]) (List.mem_of_getElem? (i := 1) rfl)
    obtain rfl : [rI x0, rI x1, rI x2] = w := Option.some.inj (show some [rI x0, rI x1, rI x2] = some w from e6)
    exact (rF_b (r := 739) (by decide) rfl).mp e7
  have f1 := ro_46.mp f1
  have f2 : rB K n p 42 [rI x2] σ := by
    obtain ⟨w, e6, e7⟩ := m4 (673, [2]) (List.mem_of_getElem? (i := 2) rfl)
    obtain rfl : [rI x2] = w := Option.some.inj (show some [rI x2] = some w from e6)
    exact (rF_b (r := 673) (by decide) rfl).mp e7
  have f2 := ro_42.mp f2
  have f3 : rB K n p 141 [rI x2, rL x4] σ := by
    obtain ⟨w, e6, e7⟩ := m4 (2258, [2, 4]) (List.mem_of_getElem? (i := 3) rfl)
    obtain rfl : [rI x2, rL x4] = w := Option.some.inj (show some [rI x2, rL x4] = some w from e6)
    exact (rF_b (r := 2258) (by decide) rfl).mp e7
  have f3 := ro_141.mp f3
  have f4 : rB K n p 100 [rL x3, rL x4, rL x5] σ := by
    obtain ⟨w, e6, e7⟩ := m4 (1603, [3, 4, 5]) (List.mem_of_getElem? (i := 4) rfl)
    obtain rfl : [rL x3, rL x4, rL x5] = w := Option.some.inj (show some [rL x3, rL x4, rL x5] = some w from e6)
    exact (rF_b (r := 1603) (by decide) rfl).mp e7
  have f4 : x5 = x3 ||| x4 := Sum.inl.inj (Sum.inr.inj (ro_100.mp f4))
  clear m1 m2 m3 m4
  have q0 : rB K n p 41 [rI x0, rI x1, rL x5] σ := ro_41.mpr (by
    refine ⟨by omega, fun u h1 h2 => ?_⟩
    rw [f4, rBt_or, f0.2 u h1 h2, f3 u h1 h2]
    constructor
    · rintro ((h | ⟨f, h3, h4⟩) | h)
      · exact Or.inl h
      · exact Or.inr ⟨f, by omega, h4⟩
      · exact Or.inr ⟨x1.toInt, by omega, by omega, h1, by rw [h, f1], by rw [h]; exact f2⟩
    · rintro (h | ⟨f, h3, h4⟩)
      · exact Or.inl (Or.inl h)
      · by_cases c : f = x1.toInt
        · have h5 := h4.2.2.1
          rw [c, ← f1] at h5
          exact Or.inr h5
        · have h5 := h4.1
          exact Or.inl (Or.inr ⟨f, by omega, h4⟩))
  exact ⟨p, fun _ => rfl, ⟨(fun q h => by cases h), fun q h => (by cases h), (fun f h => by cases h), (aAllc ⟨_, rfl, (rF_b (r := 659) (by decide) rfl).mpr q0⟩ (fun f h => by cases h))⟩, [], List.mem_cons_self, fun f h => (by cases h)⟩
theorem rw_rvP3a {K : Nat → Nat} {n : Nat} {JX : (Nat → jcell) → Prop} : aGho (rF K n) fa_T K n JX ag_rvP3a := by
  refine aGho_of ⟨rfl, rfl⟩ ?_
  intro p σ ρ hH hX hA hM0
  have hG := aAG_of hA.1 (fun i e v he hv => (hA.2 i e v he hv).1)
  clear hA
  obtain ⟨v0, v1, v2, v3, rfl, g0, g1, g2, g3⟩ := rA_4 hG
  clear hG
  obtain ⟨x0, rfl, b0, d0⟩ := aG_int g0
  dsimp only at b0 d0
  obtain ⟨x1, rfl, b1, d1⟩ := aG_int g1
  dsimp only at b1 d1
  obtain ⟨x2, rfl, b2, d2⟩ := aG_int g2
  dsimp only at b2 d2
  obtain ⟨x3, rfl⟩ := aG_lng g3
  obtain ⟨m1, m2, m3, m4⟩ := hM0
  have f0 : rB K n p 40 [rI x0, rI x1, rL x3] σ := by
    obtain ⟨w, e6, e7⟩ := m4 (643, [0, 1, 3]) (List.mem_of_getElem? (i := 0) rfl)
    obtain rfl : [rI x0, rI x1, rL x3] = w := Option.some.inj (show some [rI x0, rI x1, rL x3] = some w from e6)
    exact (rF_b (r := 643) (by decide) rfl).mp e7
  have f0 := ro_40.mp f0
  have f1 : rB K n p 46 [rI x0, rI x1, rI x2] σ := by
    obtain ⟨w, e6, e7⟩ := m4 (739, [0, 1, 2]) (List.mem_of_getElem? (i := 1) rfl)
    obtain rfl : [rI x0, rI x1, rI x2] = w := Option.some.inj (show some [rI x0, rI x1, rI x2] = some w from e6)
    exact (rF_b (r := 739) (by decide) rfl).mp e7
  have f1 := ro_46.mp f1
  clear m1 m2 m3 m4
  have q0 : rB K n p 41 [rI x0, rI x1, rL x3] σ := ro_41.mpr (by
    refine ⟨by omega, fun u h1 h2 => ?_⟩
    rw [f0.2 u h1 h2]
    constructor
    · rintro (h | ⟨f, h3, h4⟩)
      · exact Or.inl h
      · exact Or.inr ⟨f, by omega, h4⟩
    · rintro (h | ⟨f, h3, h4⟩)
      · exact Or.inl h
      · by_cases c : f = x1.toInt
        · obtain ⟨-, h5, h6, h7⟩ := h4
          rw [c, ← f1] at h6
          omega
        · have h5 := h4.1
          exact Or.inr ⟨f, by omega, h4⟩)
  exact ⟨p, fun _ => rfl, ⟨(fun q h => by cases h), fun q h => (by cases h), (fun f h => by cases h), (aAllc ⟨_, rfl, (rF_b (r := 659) (by decide) rfl).mpr q0⟩ (fun f h => by cases h))⟩, [], List.mem_cons_self, fun f h => (by cases h)⟩
theorem rw_rvP3s {K : Nat → Nat} {n : Nat} {JX : (Nat → jcell) → Prop} : aGho (rF K n) fa_T K n JX ag_rvP3s := by
  refine aGho_of ⟨rfl, rfl⟩ ?_
  intro p σ ρ hH hX hA hM0
  have hG := aAG_of hA.1 (fun i e v he hv => (hA.2 i e v he hv).1)
  clear hA
  obtain ⟨v0, v1, v2, v3, rfl, g0, g1, g2, g3⟩ := rA_4 hG
  clear hG
  obtain ⟨x0, rfl, b0, d0⟩ := aG_int g0
  dsimp only at b0 d0
  obtain ⟨x1, rfl, b1, d1⟩ := aG_int g1
  dsimp only at b1 d1
  obtain ⟨x2, rfl⟩ := aG_lng g2
  obtain ⟨x3, rfl, b3, d3⟩ := aG_int g3
  dsimp only at b3 d3
  obtain ⟨m1, m2, m3, m4⟩ := hM0
  have l0 : 0 ≤ (1 * x3.toInt + (-1 * x1.toInt + 0)) + -2 := by
    obtain ⟨z, e6, e7⟩ := m3 ([(3, 1), (1, -1)], -2) (List.mem_of_getElem? (i := 0) rfl)
    obtain rfl : (1 * x3.toInt + (-1 * x1.toInt + 0)) = z := Option.some.inj (show some (1 * x3.toInt + (-1 * x1.toInt + 0)) = some z from e6)
    exact e7
  have l1 : 0 ≤ (-1 * x3.toInt + (1 * x1.toInt + 0)) + 2 := by
    obtain ⟨z, e6, e7⟩ := m3 ([(3, -1), (1, 1)], 2) (List.mem_of_getElem? (i := 1) rfl)
    obtain rfl : (-1 * x3.toInt + (1 * x1.toInt + 0)) = z := Option.some.inj (show some (-1 * x3.toInt + (1 * x1.toInt + 0)) = some z from e6)
    exact e7
  have f0 : rB K n p 41 [rI x0, rI x1, rL x2] σ := by
    obtain ⟨w, e6, e7⟩ := m4 (659, [0, 1, 2]) (List.mem_of_getElem? (i := 0) rfl)
    obtain rfl : [rI x0, rI x1, rL x2] = w := Option.some.inj (show some [rI x0, rI x1, rL x2] = some w from e6)
    exact (rF_b (r := 659) (by decide) rfl).mp e7
  have f0 := ro_41.mp f0
  clear m1 m2 m3 m4
  have q0 : rB K n p 40 [rI x0, rI x3, rL x2] σ := ro_40.mpr (by
    refine ⟨by omega, fun u h1 h2 => ?_⟩
    rw [f0.2 u h1 h2, show x3.toInt = x1.toInt + 2 by omega])
  exact ⟨p, fun _ => rfl, ⟨(fun q h => by cases h), fun q h => (by cases h), (fun f h => by cases h), (aAllc ⟨_, rfl, (rF_b (r := 643) (by decide) rfl).mpr q0⟩ (fun f h => by cases h))⟩, [], List.mem_cons_self, fun f h => (by cases h)⟩
theorem rw_rvPE {K : Nat → Nat} {n : Nat} {JX : (Nat → jcell) → Prop} : aGho (rF K n) fa_T K n JX ag_rvPE := by
  refine aGho_of ⟨rfl, rfl⟩ ?_
  intro p σ ρ hH hX hA hM0
  have hG := aAG_of hA.1 (fun i e v he hv => (hA.2 i e v he hv).1)
  clear hA
  obtain ⟨v0, v1, v2, rfl, g0, g1, g2⟩ := rA_3 hG
  clear hG
  obtain ⟨x0, rfl, b0, d0⟩ := aG_int g0
  dsimp only at b0 d0
  obtain ⟨x1, rfl, b1, d1⟩ := aG_int g1
  dsimp only at b1 d1
  obtain ⟨x2, rfl⟩ := aG_lng g2
  obtain ⟨m1, m2, m3, m4⟩ := hM0
  have f0 : rB K n p 40 [rI x0, rI x1, rL x2] σ := by
    obtain ⟨w, e6, e7⟩ := m4 (643, [0, 1, 2]) (List.mem_of_getElem? (i := 0) rfl)
    obtain rfl : [rI x0, rI x1, rL x2] = w := Option.some.inj (show some [rI x0, rI x1, rL x2] = some w from e6)
    exact (rF_b (r := 643) (by decide) rfl).mp e7
  have f0 := ro_40.mp f0
  clear m1 m2 m3 m4
  have q0 : rB K n p 43 [rI x0, rL x2] σ := ro_43.mpr (by
    intro u h1 h2
    rw [f0.2 u h1 h2]
    unfold rPG
    constructor
    · rintro (h | ⟨f, h3, h4⟩)
      · exact Or.inl h
      · exact Or.inr ⟨f, h4⟩
    · rintro (h | ⟨f, h4⟩)
      · exact Or.inl h
      · have h5 := h4.1
        exact Or.inr ⟨f, by omega, h4⟩)
  exact ⟨p, fun _ => rfl, ⟨(fun q h => by cases h), fun q h => (by cases h), (fun f h => by cases h), (aAllc ⟨_, rfl, (rF_b (r := 690) (by decide) rfl).mpr q0⟩ (fun f h => by cases h))⟩, [], List.mem_cons_self, fun f h => (by cases h)⟩
theorem rw_rvPON0 {K : Nat → Nat} {n : Nat} {JX : (Nat → jcell) → Prop} : aGho (rF K n) fa_T K n JX ag_rvPON0 := by
  refine aGho_of ⟨rfl, rfl⟩ ?_
  intro p σ ρ hH hX hA hM0
  have hG := aAG_of hA.1 (fun i e v he hv => (hA.2 i e v he hv).1)
  clear hA
  obtain ⟨v0, v1, v2, v3, v4, v5, rfl, g0, g1, g2, g3, g4, g5⟩ := rA_6 hG
  clear hG
  obtain ⟨x0, rfl, b0, d0⟩ := rG_ref (by decide) g0
  obtain ⟨x1, rfl, b1, d1⟩ := aG_int g1
  dsimp only at b1 d1
  obtain ⟨x2, rfl, b2, d2⟩ := aG_int g2
  dsimp only at b2 d2
  obtain ⟨x3, rfl, b3, d3⟩ := aG_int g3
  dsimp only at b3 d3
  obtain ⟨x4, rfl, b4, d4⟩ := aG_int g4
  dsimp only at b4 d4
  obtain ⟨x5, rfl, b5, d5⟩ := aG_int g5
  dsimp only at b5 d5
  obtain ⟨m1, m2, m3, m4⟩ := hM0
  obtain ⟨M, hM⟩ := rMe_ex hH b0 d0
  obtain ⟨a0, c0, fs0, w0, e1, s0, t0, e4⟩ := m1 (0, 3, 5) (List.mem_of_getElem? (i := 0) rfl)
  obtain rfl : x0 = a0 := Sum.inl.inj (Option.some.inj (Sum.inr.inj (Sum.inr.inj (Option.some.inj (show some (rR x0) = some _ from e1)))))
  obtain rfl : rI x5 = w0 := Option.some.inj (show some (rI x5) = some w0 from e4)
  clear e1 e4
  have f0 : rB K n p 22 [rR x0] σ := by
    obtain ⟨w, e6, e7⟩ := m4 (353, [0]) (List.mem_of_getElem? (i := 0) rfl)
    obtain rfl : [rR x0] = w := Option.some.inj (show some [rR x0] = some w from e6)
    exact (rF_b (r := 353) (by decide) rfl).mp e7
  obtain ⟨hp, hR⟩ := ro_22.mp f0
  obtain rfl := rMg_u hM hR.1
  have uS : p.1.2.1 = x5.toInt := rRX_f hR.2.1 s0 t0
  have f1 : rB K n p 120 [rI x1, rI x2, rI x3, rI x4] σ := by
    obtain ⟨w, e6, e7⟩ := m4 (1924, [1, 2, 3, 4]) (List.mem_of_getElem? (i := 1) rfl)
    obtain rfl : [rI x1, rI x2, rI x3, rI x4] = w := Option.some.inj (show some [rI x1, rI x2, rI x3, rI x4] = some w from e6)
    exact (rF_b (r := 1924) (by decide) rfl).mp e7
  have f1 := ro_120.mp f1
  clear m1 m2 m3 m4
  have q0 : rB K n p 35 [rI x1, rI x4] σ := ro_35.mpr (by
    rw [f1]
    unfold rUpw
    rw [show x2.toInt = 0 by omega, show x3.toInt = 1 - 2 * p.1.2.1 by omega])
  exact ⟨p, fun _ => rfl, ⟨(fun q h => by cases h), fun q h => (by cases h), (fun f h => by cases h), (aAllc ⟨_, rfl, (rF_b (r := 562) (by decide) rfl).mpr q0⟩ (fun f h => by cases h))⟩, [], List.mem_cons_self, fun f h => (by cases h)⟩
theorem rw_rvTW0 {K : Nat → Nat} {n : Nat} {JX : (Nat → jcell) → Prop} : aGho (rF K n) fa_T K n JX ag_rvTW0 := by
  refine aGho_of ⟨rfl, rfl⟩ ?_
  intro p σ ρ hH hX hA hM0
  have hG := aAG_of hA.1 (fun i e v he hv => (hA.2 i e v he hv).1)
  clear hA
  obtain ⟨v0, v1, v2, v3, v4, v5, rfl, g0, g1, g2, g3, g4, g5⟩ := rA_6 hG
  clear hG
  obtain ⟨x0, rfl, b0, d0⟩ := rG_ref (by decide) g0
  obtain ⟨x1, rfl, b1, d1⟩ := aG_int g1
  dsimp only at b1 d1
  obtain ⟨x2, rfl, b2, d2⟩ := aG_int g2
  dsimp only at b2 d2
  obtain ⟨x3, rfl, b3, d3⟩ := aG_int g3
  dsimp only at b3 d3
  obtain ⟨x4, rfl, b4, d4⟩ := aG_int g4
  dsimp only at b4 d4
  obtain ⟨x5, rfl, b5, d5⟩ := aG_int g5
  dsimp only at b5 d5
  obtain ⟨m1, m2, m3, m4⟩ := hM0
  obtain ⟨M, hM⟩ := rMe_ex hH b0 d0
  obtain ⟨a0, c0, fs0, w0, e1, s0, t0, e4⟩ := m1 (0, 3, 5) (List.mem_of_getElem? (i := 0) rfl)
  obtain rfl : x0 = a0 := Sum.inl.inj (Option.some.inj (Sum.inr.inj (Sum.inr.inj (Option.some.inj (show some (rR x0) = some _ from e1)))))
  obtain rfl : rI x5 = w0 := Option.some.inj (show some (rI x5) = some w0 from e4)
  clear e1 e4
  have f0 : rB K n p 22 [rR x0] σ := by
    obtain ⟨w, e6, e7⟩ := m4 (353, [0]) (List.mem_of_getElem? (i := 0) rfl)
    obtain rfl : [rR x0] = w := Option.some.inj (show some [rR x0] = some w from e6)
    exact (rF_b (r := 353) (by decide) rfl).mp e7
  obtain ⟨hp, hR⟩ := ro_22.mp f0
  obtain rfl := rMg_u hM hR.1
  have uS : p.1.2.1 = x5.toInt := rRX_f hR.2.1 s0 t0
  have f1 : rB K n p 120 [rI x1, rI x2, rI x3, rI x4] σ := by
    obtain ⟨w, e6, e7⟩ := m4 (1924, [1, 2, 3, 4]) (List.mem_of_getElem? (i := 1) rfl)
    obtain rfl : [rI x1, rI x2, rI x3, rI x4] = w := Option.some.inj (show some [rI x1, rI x2, rI x3, rI x4] = some w from e6)
    exact (rF_b (r := 1924) (by decide) rfl).mp e7
  have f1 := ro_120.mp f1
  clear m1 m2 m3 m4
  have q0 : rB K n p 36 [rI x1, rI x4] σ := ro_36.mpr (by
    rw [f1]
    unfold rUpw
    rw [show x2.toInt = 0 by omega, show x3.toInt = 1 - 2 * p.1.2.1 by omega])
  exact ⟨p, fun _ => rfl, ⟨(fun q h => by cases h), fun q h => (by cases h), (fun f h => by cases h), (aAllc ⟨_, rfl, (rF_b (r := 578) (by decide) rfl).mpr q0⟩ (fun f h => by cases h))⟩, [], List.mem_cons_self, fun f h => (by cases h)⟩
theorem rw_rvP2p0 {K : Nat → Nat} {n : Nat} {JX : (Nat → jcell) → Prop} : aGho (rF K n) fa_T K n JX ag_rvP2p0 := by
  refine aGho_of ⟨rfl, rfl⟩ ?_
  intro p σ ρ hH hX hA hM0
  have hG := aAG_of hA.1 (fun i e v he hv => (hA.2 i e v he hv).1)
  clear hA
  obtain ⟨v0, v1, v2, v3, v4, v5, rfl, g0, g1, g2, g3, g4, g5⟩ := rA_6 hG
  clear hG
  obtain ⟨x0, rfl, b0, d0⟩ := rG_ref (by decide) g0
  obtain ⟨x1, rfl, b1, d1⟩ := aG_int g1
  dsimp only at b1 d1
  obtain ⟨x2, rfl, b2, d2⟩ := aG_int g2
  dsimp only at b2 d2
  obtain ⟨x3, rfl, b3, d3⟩ := aG_int g3
  dsimp only at b3 d3
  obtain ⟨x4, rfl, b4, d4⟩ := aG_int g4
  dsimp only at b4 d4
  obtain ⟨x5, rfl, b5, d5⟩ := aG_int g5
  dsimp only at b5 d5
  obtain ⟨m1, m2, m3, m4⟩ := hM0
  obtain ⟨M, hM⟩ := rMe_ex hH b0 d0
  obtain ⟨a0, c0, fs0, w0, e1, s0, t0, e4⟩ := m1 (0, 3, 5) (List.mem_of_getElem? (i := 0) rfl)
  obtain rfl : x0 = a0 := Sum.inl.inj (Option.some.inj (Sum.inr.inj (Sum.inr.inj (Option.some.inj (show some (rR x0) = some _ from e1)))))
  obtain rfl : rI x5 = w0 := Option.some.inj (show some (rI x5) = some w0 from e4)
  clear e1 e4
  have f0 : rB K n p 22 [rR x0] σ := by
    obtain ⟨w, e6, e7⟩ := m4 (353, [0]) (List.mem_of_getElem? (i := 0) rfl)
    obtain rfl : [rR x0] = w := Option.some.inj (show some [rR x0] = some w from e6)
    exact (rF_b (r := 353) (by decide) rfl).mp e7
  obtain ⟨hp, hR⟩ := ro_22.mp f0
  obtain rfl := rMg_u hM hR.1
  have uS : p.1.2.1 = x5.toInt := rRX_f hR.2.1 s0 t0
  have f1 : rB K n p 35 [rI x1, rI x2] σ := by
    obtain ⟨w, e6, e7⟩ := m4 (562, [1, 2]) (List.mem_of_getElem? (i := 1) rfl)
    obtain rfl : [rI x1, rI x2] = w := Option.some.inj (show some [rI x1, rI x2] = some w from e6)
    exact (rF_b (r := 562) (by decide) rfl).mp e7
  have f1 := ro_35.mp f1
  have f2 : rB K n p 36 [rI x2, rI x3] σ := by
    obtain ⟨w, e6, e7⟩ := m4 (578, [2, 3]) (List.mem_of_getElem? (i := 2) rfl)
    obtain rfl : [rI x2, rI x3] = w := Option.some.inj (show some [rI x2, rI x3] = some w from e6)
    exact (rF_b (r := 578) (by decide) rfl).mp e7
  have f2 := ro_36.mp f2
  have f3 : rB K n p 157 [rI x1, rI x4] σ := by
    obtain ⟨w, e6, e7⟩ := m4 (2514, [1, 4]) (List.mem_of_getElem? (i := 3) rfl)
    obtain rfl : [rI x1, rI x4] = w := Option.some.inj (show some [rI x1, rI x4] = some w from e6)
    exact (rF_b (r := 2514) (by decide) rfl).mp e7
  have f3 := ro_157.mp f3
  clear m1 m2 m3 m4
  have r0 : 0 ≤ (1 * x3.toInt + 0) + 0 := by
    have h1 := f1
    have h2 := f2
    unfold rSp rUpw at h1 h2
    split at h1
    · split at h2 <;> omega
    · omega
  exact ⟨p, fun _ => rfl, ⟨(fun q h => by cases h), fun q h => (by cases h), (aAllc ⟨_, rfl, r0⟩ (fun f h => by cases h)), (fun f h => by cases h)⟩, [], List.mem_cons_self, fun f h => (by cases h)⟩
theorem rw_rvPd10 {K : Nat → Nat} {n : Nat} {JX : (Nat → jcell) → Prop} : aGho (rF K n) fa_T K n JX ag_rvPd10 := by
  refine aGho_of ⟨rfl, rfl⟩ ?_
  intro p σ ρ hH hX hA hM0
  have hG := aAG_of hA.1 (fun i e v he hv => (hA.2 i e v he hv).1)
  clear hA
  obtain ⟨v0, v1, v2, v3, v4, v5, v6, v7, v8, v9, rfl, g0, g1, g2, g3, g4, g5, g6, g7, g8, g9⟩ := rA_10 hG
  clear hG
  obtain ⟨x0, rfl, b0, d0⟩ := rG_ref (by decide) g0
  obtain ⟨x1, rfl, b1, d1⟩ := aG_int g1
  dsimp only at b1 d1
  obtain ⟨x2, rfl, b2, d2⟩ := aG_int g2
  dsimp only at b2 d2
  obtain ⟨x3, rfl, b3, d3⟩ := aG_int g3
  dsimp only at b3 d3
  obtain ⟨x4, rfl, b4, d4⟩ := aG_int g4
  dsimp only at b4 d4
  obtain ⟨x5, rfl, b5, d5⟩ := aG_int g5
  dsimp only at b5 d5
  obtain ⟨x6, rfl⟩ := aG_lng g6
  obtain ⟨x7, rfl⟩ := aG_lng g7
  obtain ⟨x8, rfl⟩ := aG_lng g8
  obtain ⟨x9, rfl, b9, d9⟩ := aG_int g9
  dsimp only at b9 d9
  obtain ⟨m1, m2, m3, m4⟩ := hM0
  obtain ⟨M, hM⟩ := rMe_ex hH b0 d0
  obtain ⟨a0, c0, fs0, w0, e1, s0, t0, e4⟩ := m1 (0, 3, 9) (List.mem_of_getElem? (i := 0) rfl)
  obtain rfl : x0 = a0 := Sum.inl.inj (Option.some.inj (Sum.inr.inj (Sum.inr.inj (Option.some.inj (show some (rR x0) = some _ from e1)))))
  obtain rfl : rI x9 = w0 := Option.some.inj (show some (rI x9) = some w0 from e4)
  clear e1 e4
  have f0 : rB K n p 22 [rR x0] σ := by
    obtain ⟨w, e6, e7⟩ := m4 (353, [0]) (List.mem_of_getElem? (i := 0) rfl)
    obtain rfl : [rR x0] = w := Option.some.inj (show some [rR x0] = some w from e6)
    exact (rF_b (r := 353) (by decide) rfl).mp e7
  obtain ⟨hp, hR⟩ := ro_22.mp f0
  obtain rfl := rMg_u hM hR.1
  have uS : p.1.2.1 = x9.toInt := rRX_f hR.2.1 s0 t0
  have f1 : rB K n p 38 [rI x1, rI x2, rL x6] σ := by
    obtain ⟨w, e6, e7⟩ := m4 (611, [1, 2, 6]) (List.mem_of_getElem? (i := 1) rfl)
    obtain rfl : [rI x1, rI x2, rL x6] = w := Option.some.inj (show some [rI x1, rI x2, rL x6] = some w from e6)
    exact (rF_b (r := 611) (by decide) rfl).mp e7
  have f1 := ro_38.mp f1
  have f2 : rB K n p 36 [rI x2, rI x3] σ := by
    obtain ⟨w, e6, e7⟩ := m4 (578, [2, 3]) (List.mem_of_getElem? (i := 2) rfl)
    obtain rfl : [rI x2, rI x3] = w := Option.some.inj (show some [rI x2, rI x3] = some w from e6)
    exact (rF_b (r := 578) (by decide) rfl).mp e7
  have f2 := ro_36.mp f2
  have f3 : rB K n p 157 [rI x1, rI x4] σ := by
    obtain ⟨w, e6, e7⟩ := m4 (2514, [1, 4]) (List.mem_of_getElem? (i := 3) rfl)
    obtain rfl : [rI x1, rI x4] = w := Option.some.inj (show some [rI x1, rI x4] = some w from e6)
    exact (rF_b (r := 2514) (by decide) rfl).mp e7
  have f3 := ro_157.mp f3
  have f4 : rB K n p 37 [rI x3, rI x5] σ := by
    obtain ⟨w, e6, e7⟩ := m4 (594, [3, 5]) (List.mem_of_getElem? (i := 4) rfl)
    obtain rfl : [rI x3, rI x5] = w := Option.some.inj (show some [rI x3, rI x5] = some w from e6)
    exact (rF_b (r := 594) (by decide) rfl).mp e7
  have f4 := ro_37.mp f4
  have f5 : rB K n p 141 [rI x3, rL x7] σ := by
    obtain ⟨w, e6, e7⟩ := m4 (2258, [3, 7]) (List.mem_of_getElem? (i := 5) rfl)
    obtain rfl : [rI x3, rL x7] = w := Option.some.inj (show some [rI x3, rL x7] = some w from e6)
    exact (rF_b (r := 2258) (by decide) rfl).mp e7
  have f5 := ro_141.mp f5
  have f6 : rB K n p 100 [rL x6, rL x7, rL x8] σ := by
    obtain ⟨w, e6, e7⟩ := m4 (1603, [6, 7, 8]) (List.mem_of_getElem? (i := 6) rfl)
    obtain rfl : [rL x6, rL x7, rL x8] = w := Option.some.inj (show some [rL x6, rL x7, rL x8] = some w from e6)
    exact (rF_b (r := 1603) (by decide) rfl).mp e7
  have f6 : x8 = x6 ||| x7 := Sum.inl.inj (Sum.inr.inj (ro_100.mp f6))
  clear m1 m2 m3 m4
  have q0 : rB K n p 39 [rI x1, rL x8] σ := ro_39.mpr (by
    intro u h1 h2
    rw [f6, rBt_or, f1.2.2 u h1 h2, f5 u h1 h2]
    unfold rPF
    rw [← f1.1, ← f2]
    constructor
    · rintro (h | h)
      · exact ⟨b2, f1.2.1, Or.inl h⟩
      · exact ⟨b2, f1.2.1, Or.inr ⟨by omega, h, by rw [h]; omega⟩⟩
    · rintro ⟨-, -, h | ⟨-, h, -⟩⟩
      · exact Or.inl h
      · exact Or.inr h)
  exact ⟨p, fun _ => rfl, ⟨(fun q h => by cases h), fun q h => (by cases h), (fun f h => by cases h), (aAllc ⟨_, rfl, (rF_b (r := 626) (by decide) rfl).mpr q0⟩ (fun f h => by cases h))⟩, [], List.mem_cons_self, fun f h => (by cases h)⟩
theorem rw_rvPc00 {K : Nat → Nat} {n : Nat} {JX : (Nat → jcell) → Prop} : aGho (rF K n) fa_T K n JX ag_rvPc00 := by
  refine aGho_of ⟨rfl, rfl⟩ ?_
  intro p σ ρ hH hX hA hM0
  have hG := aAG_of hA.1 (fun i e v he hv => (hA.2 i e v he hv).1)
  clear hA
  obtain ⟨v0, v1, v2, v3, v4, v5, rfl, g0, g1, g2, g3, g4, g5⟩ := rA_6 hG
  clear hG
  obtain ⟨x0, rfl, b0, d0⟩ := rG_ref (by decide) g0
  obtain ⟨x1, rfl, b1, d1⟩ := aG_int g1
  dsimp only at b1 d1
  obtain ⟨x2, rfl, b2, d2⟩ := aG_int g2
  dsimp only at b2 d2
  obtain ⟨x3, rfl, b3, d3⟩ := aG_int g3
  dsimp only at b3 d3
  obtain ⟨x4, rfl⟩ := aG_lng g4
  obtain ⟨x5, rfl, b5, d5⟩ := aG_int g5
  dsimp only at b5 d5
  obtain ⟨m1, m2, m3, m4⟩ := hM0
  obtain ⟨M, hM⟩ := rMe_ex hH b0 d0
  obtain ⟨a0, c0, fs0, w0, e1, s0, t0, e4⟩ := m1 (0, 3, 5) (List.mem_of_getElem? (i := 0) rfl)
  obtain rfl : x0 = a0 := Sum.inl.inj (Option.some.inj (Sum.inr.inj (Sum.inr.inj (Option.some.inj (show some (rR x0) = some _ from e1)))))
  obtain rfl : rI x5 = w0 := Option.some.inj (show some (rI x5) = some w0 from e4)
  clear e1 e4
  have f0 : rB K n p 22 [rR x0] σ := by
    obtain ⟨w, e6, e7⟩ := m4 (353, [0]) (List.mem_of_getElem? (i := 0) rfl)
    obtain rfl : [rR x0] = w := Option.some.inj (show some [rR x0] = some w from e6)
    exact (rF_b (r := 353) (by decide) rfl).mp e7
  obtain ⟨hp, hR⟩ := ro_22.mp f0
  obtain rfl := rMg_u hM hR.1
  have uS : p.1.2.1 = x5.toInt := rRX_f hR.2.1 s0 t0
  have f1 : rB K n p 38 [rI x1, rI x2, rL x4] σ := by
    obtain ⟨w, e6, e7⟩ := m4 (611, [1, 2, 4]) (List.mem_of_getElem? (i := 1) rfl)
    obtain rfl : [rI x1, rI x2, rL x4] = w := Option.some.inj (show some [rI x1, rI x2, rL x4] = some w from e6)
    exact (rF_b (r := 611) (by decide) rfl).mp e7
  have f1 := ro_38.mp f1
  have f2 : rB K n p 157 [rI x1, rI x3] σ := by
    obtain ⟨w, e6, e7⟩ := m4 (2514, [1, 3]) (List.mem_of_getElem? (i := 2) rfl)
    obtain rfl : [rI x1, rI x3] = w := Option.some.inj (show some [rI x1, rI x3] = some w from e6)
    exact (rF_b (r := 2514) (by decide) rfl).mp e7
  have f2 := ro_157.mp f2
  clear m1 m2 m3 m4
  have q0 : rB K n p 39 [rI x1, rL x4] σ := ro_39.mpr (by
    intro u h1 h2
    rw [f1.2.2 u h1 h2]
    unfold rPF
    rw [← f1.1]
    constructor
    · intro h
      exact ⟨b2, f1.2.1, Or.inl h⟩
    · rintro ⟨-, -, h | ⟨h, -⟩⟩
      · exact h
      · omega)
  exact ⟨p, fun _ => rfl, ⟨(fun q h => by cases h), fun q h => (by cases h), (fun f h => by cases h), (aAllc ⟨_, rfl, (rF_b (r := 626) (by decide) rfl).mpr q0⟩ (fun f h => by cases h))⟩, [], List.mem_cons_self, fun f h => (by cases h)⟩
theorem rw_rvPc10 {K : Nat → Nat} {n : Nat} {JX : (Nat → jcell) → Prop} : aGho (rF K n) fa_T K n JX ag_rvPc10 := by
  refine aGho_of ⟨rfl, rfl⟩ ?_
  intro p σ ρ hH hX hA hM0
  have hG := aAG_of hA.1 (fun i e v he hv => (hA.2 i e v he hv).1)
  clear hA
  obtain ⟨v0, v1, v2, v3, v4, v5, rfl, g0, g1, g2, g3, g4, g5⟩ := rA_6 hG
  clear hG
  obtain ⟨x0, rfl, b0, d0⟩ := rG_ref (by decide) g0
  obtain ⟨x1, rfl, b1, d1⟩ := aG_int g1
  dsimp only at b1 d1
  obtain ⟨x2, rfl, b2, d2⟩ := aG_int g2
  dsimp only at b2 d2
  obtain ⟨x3, rfl, b3, d3⟩ := aG_int g3
  dsimp only at b3 d3
  obtain ⟨x4, rfl⟩ := aG_lng g4
  obtain ⟨x5, rfl, b5, d5⟩ := aG_int g5
  dsimp only at b5 d5
  obtain ⟨m1, m2, m3, m4⟩ := hM0
  obtain ⟨M, hM⟩ := rMe_ex hH b0 d0
  obtain ⟨a0, c0, fs0, w0, e1, s0, t0, e4⟩ := m1 (0, 3, 5) (List.mem_of_getElem? (i := 0) rfl)
  obtain rfl : x0 = a0 := Sum.inl.inj (Option.some.inj (Sum.inr.inj (Sum.inr.inj (Option.some.inj (show some (rR x0) = some _ from e1)))))
  obtain rfl : rI x5 = w0 := Option.some.inj (show some (rI x5) = some w0 from e4)
  clear e1 e4
  have f0 : rB K n p 22 [rR x0] σ := by
    obtain ⟨w, e6, e7⟩ := m4 (353, [0]) (List.mem_of_getElem? (i := 0) rfl)
    obtain rfl : [rR x0] = w := Option.some.inj (show some [rR x0] = some w from e6)
    exact (rF_b (r := 353) (by decide) rfl).mp e7
  obtain ⟨hp, hR⟩ := ro_22.mp f0
  obtain rfl := rMg_u hM hR.1
  have uS : p.1.2.1 = x5.toInt := rRX_f hR.2.1 s0 t0
  have f1 : rB K n p 38 [rI x1, rI x2, rL x4] σ := by
    obtain ⟨w, e6, e7⟩ := m4 (611, [1, 2, 4]) (List.mem_of_getElem? (i := 1) rfl)
    obtain rfl : [rI x1, rI x2, rL x4] = w := Option.some.inj (show some [rI x1, rI x2, rL x4] = some w from e6)
    exact (rF_b (r := 611) (by decide) rfl).mp e7
  have f1 := ro_38.mp f1
  have f2 : rB K n p 157 [rI x1, rI x3] σ := by
    obtain ⟨w, e6, e7⟩ := m4 (2514, [1, 3]) (List.mem_of_getElem? (i := 2) rfl)
    obtain rfl : [rI x1, rI x3] = w := Option.some.inj (show some [rI x1, rI x3] = some w from e6)
    exact (rF_b (r := 2514) (by decide) rfl).mp e7
  have f2 := ro_157.mp f2
  clear m1 m2 m3 m4
  have q0 : rB K n p 39 [rI x1, rL x4] σ := ro_39.mpr (by
    intro u h1 h2
    rw [f1.2.2 u h1 h2]
    unfold rPF
    rw [← f1.1]
    constructor
    · intro h
      exact ⟨b2, f1.2.1, Or.inl h⟩
    · rintro ⟨-, -, h | ⟨h, -⟩⟩
      · exact h
      · omega)
  exact ⟨p, fun _ => rfl, ⟨(fun q h => by cases h), fun q h => (by cases h), (fun f h => by cases h), (aAllc ⟨_, rfl, (rF_b (r := 626) (by decide) rfl).mpr q0⟩ (fun f h => by cases h))⟩, [], List.mem_cons_self, fun f h => (by cases h)⟩
theorem rw_rvPd0 {K : Nat → Nat} {n : Nat} {JX : (Nat → jcell) → Prop} : aGho (rF K n) fa_T K n JX ag_rvPd0 := by
  refine aGho_of ⟨rfl, rfl⟩ ?_
  intro p σ ρ hH hX hA hM0
  have hG := aAG_of hA.1 (fun i e v he hv => (hA.2 i e v he hv).1)
  clear hA
  obtain ⟨v0, v1, v2, v3, v4, v5, v6, v7, rfl, g0, g1, g2, g3, g4, g5, g6, g7⟩ := rA_8 hG
  clear hG
  obtain ⟨x0, rfl, b0, d0⟩ := rG_ref (by decide) g0
  obtain ⟨x1, rfl, b1, d1⟩ := aG_int g1
  dsimp only at b1 d1
  obtain ⟨x2, rfl, b2, d2⟩ := aG_int g2
  dsimp only at b2 d2
  obtain ⟨x3, rfl, b3, d3⟩ := aG_int g3
  dsimp only at b3 d3
  obtain ⟨x4, rfl, b4, d4⟩ := aG_int g4
  dsimp only at b4 d4
  obtain ⟨x5, rfl, b5, d5⟩ := aG_int g5
  dsimp only at b5 d5
  obtain ⟨x6, rfl⟩ := aG_lng g6
  obtain ⟨x7, rfl, b7, d7⟩ := aG_int g7
  dsimp only at b7 d7
  obtain ⟨m1, m2, m3, m4⟩ := hM0
  obtain ⟨M, hM⟩ := rMe_ex hH b0 d0
  obtain ⟨a0, c0, fs0, w0, e1, s0, t0, e4⟩ := m1 (0, 3, 7) (List.mem_of_getElem? (i := 0) rfl)
  obtain rfl : x0 = a0 := Sum.inl.inj (Option.some.inj (Sum.inr.inj (Sum.inr.inj (Option.some.inj (show some (rR x0) = some _ from e1)))))
  obtain rfl : rI x7 = w0 := Option.some.inj (show some (rI x7) = some w0 from e4)
  clear e1 e4
  have f0 : rB K n p 22 [rR x0] σ := by
    obtain ⟨w, e6, e7⟩ := m4 (353, [0]) (List.mem_of_getElem? (i := 0) rfl)
    obtain rfl : [rR x0] = w := Option.some.inj (show some [rR x0] = some w from e6)
    exact (rF_b (r := 353) (by decide) rfl).mp e7
  obtain ⟨hp, hR⟩ := ro_22.mp f0
  obtain rfl := rMg_u hM hR.1
  have uS : p.1.2.1 = x7.toInt := rRX_f hR.2.1 s0 t0
  have f1 : rB K n p 38 [rI x1, rI x2, rL x6] σ := by
    obtain ⟨w, e6, e7⟩ := m4 (611, [1, 2, 6]) (List.mem_of_getElem? (i := 1) rfl)
    obtain rfl : [rI x1, rI x2, rL x6] = w := Option.some.inj (show some [rI x1, rI x2, rL x6] = some w from e6)
    exact (rF_b (r := 611) (by decide) rfl).mp e7
  have f1 := ro_38.mp f1
  have f2 : rB K n p 36 [rI x2, rI x3] σ := by
    obtain ⟨w, e6, e7⟩ := m4 (578, [2, 3]) (List.mem_of_getElem? (i := 2) rfl)
    obtain rfl : [rI x2, rI x3] = w := Option.some.inj (show some [rI x2, rI x3] = some w from e6)
    exact (rF_b (r := 578) (by decide) rfl).mp e7
  have f2 := ro_36.mp f2
  have f3 : rB K n p 157 [rI x1, rI x4] σ := by
    obtain ⟨w, e6, e7⟩ := m4 (2514, [1, 4]) (List.mem_of_getElem? (i := 3) rfl)
    obtain rfl : [rI x1, rI x4] = w := Option.some.inj (show some [rI x1, rI x4] = some w from e6)
    exact (rF_b (r := 2514) (by decide) rfl).mp e7
  have f3 := ro_157.mp f3
  have f4 : rB K n p 37 [rI x3, rI x5] σ := by
    obtain ⟨w, e6, e7⟩ := m4 (594, [3, 5]) (List.mem_of_getElem? (i := 4) rfl)
    obtain rfl : [rI x3, rI x5] = w := Option.some.inj (show some [rI x3, rI x5] = some w from e6)
    exact (rF_b (r := 594) (by decide) rfl).mp e7
  have f4 := ro_37.mp f4
  clear m1 m2 m3 m4
  have q0 : rB K n p 39 [rI x1, rL x6] σ := ro_39.mpr (by
    intro u h1 h2
    rw [f1.2.2 u h1 h2]
    unfold rPF
    rw [← f1.1, ← f2]
    constructor
    · intro h
      exact ⟨b2, f1.2.1, Or.inl h⟩
    · rintro ⟨-, -, h | ⟨-, h, h3⟩⟩
      · exact h
      · rw [h] at h3; omega)
  exact ⟨p, fun _ => rfl, ⟨(fun q h => by cases h), fun q h => (by cases h), (fun f h => by cases h), (aAllc ⟨_, rfl, (rF_b (r := 626) (by decide) rfl).mpr q0⟩ (fun f h => by cases h))⟩, [], List.mem_cons_self, fun f h => (by cases h)⟩
theorem rw_rvPQ0 {K : Nat → Nat} {n : Nat} {JX : (Nat → jcell) → Prop} : aGho (rF K n) fa_T K n JX ag_rvPQ0 := by
  refine aGho_of ⟨rfl, rfl⟩ ?_
  intro p σ ρ hH hX hA hM0
  have hG := aAG_of hA.1 (fun i e v he hv => (hA.2 i e v he hv).1)
  clear hA
  obtain ⟨v0, v1, v2, v3, v4, v5, rfl, g0, g1, g2, g3, g4, g5⟩ := rA_6 hG
  clear hG
  obtain ⟨x0, rfl, b0, d0⟩ := rG_ref (by decide) g0
  obtain ⟨x1, rfl, b1, d1⟩ := aG_int g1
  dsimp only at b1 d1
  obtain ⟨x2, rfl, b2, d2⟩ := aG_int g2
  dsimp only at b2 d2
  obtain ⟨x3, rfl, b3, d3⟩ := aG_int g3
  dsimp only at b3 d3
  obtain ⟨x4, rfl, b4, d4⟩ := aG_int g4
  dsimp only at b4 d4
  obtain ⟨x5, rfl, b5, d5⟩ := aG_int g5
  dsimp only at b5 d5
  obtain ⟨m1, m2, m3, m4⟩ := hM0
  obtain ⟨M, hM⟩ := rMe_ex hH b0 d0
  obtain ⟨a0, c0, fs0, w0, e1, s0, t0, e4⟩ := m1 (0, 3, 5) (List.mem_of_getElem? (i := 0) rfl)
  obtain rfl : x0 = a0 := Sum.inl.inj (Option.some.inj (Sum.inr.inj (Sum.inr.inj (Option.some.inj (show some (rR x0) = some _ from e1)))))
  obtain rfl : rI x5 = w0 := Option.some.inj (show some (rI x5) = some w0 from e4)
  clear e1 e4
  have f0 : rB K n p 22 [rR x0] σ := by
    obtain ⟨w, e6, e7⟩ := m4 (353, [0]) (List.mem_of_getElem? (i := 0) rfl)
    obtain rfl : [rR x0] = w := Option.some.inj (show some [rR x0] = some w from e6)
    exact (rF_b (r := 353) (by decide) rfl).mp e7
  obtain ⟨hp, hR⟩ := ro_22.mp f0
  obtain rfl := rMg_u hM hR.1
  have uS : p.1.2.1 = x5.toInt := rRX_f hR.2.1 s0 t0
  have f1 : rB K n p 120 [rI x1, rI x2, rI x3, rI x4] σ := by
    obtain ⟨w, e6, e7⟩ := m4 (1924, [1, 2, 3, 4]) (List.mem_of_getElem? (i := 1) rfl)
    obtain rfl : [rI x1, rI x2, rI x3, rI x4] = w := Option.some.inj (show some [rI x1, rI x2, rI x3, rI x4] = some w from e6)
    exact (rF_b (r := 1924) (by decide) rfl).mp e7
  have f1 := ro_120.mp f1
  clear m1 m2 m3 m4
  have q0 : rB K n p 46 [rI x1, rI x2, rI x4] σ := ro_46.mpr (by
    rw [f1]
    unfold rUpw
    rw [show x3.toInt = 1 - 2 * p.1.2.1 by omega])
  exact ⟨p, fun _ => rfl, ⟨(fun q h => by cases h), fun q h => (by cases h), (fun f h => by cases h), (aAllc ⟨_, rfl, (rF_b (r := 739) (by decide) rfl).mpr q0⟩ (fun f h => by cases h))⟩, [], List.mem_cons_self, fun f h => (by cases h)⟩
theorem rw_rvTK10 {K : Nat → Nat} {n : Nat} {JX : (Nat → jcell) → Prop} : aGho (rF K n) fa_T K n JX ag_rvTK10 := by
  refine aGho_of ⟨rfl, rfl⟩ ?_
  intro p σ ρ hH hX hA hM0
  have hG := aAG_of hA.1 (fun i e v he hv => (hA.2 i e v he hv).1)
  clear hA
  obtain ⟨v0, v1, v2, v3, v4, rfl, g0, g1, g2, g3, g4⟩ := rA_5 hG
  clear hG
  obtain ⟨x0, rfl, b0, d0⟩ := rG_ref (by decide) g0
  obtain ⟨x1, rfl, b1, d1⟩ := aG_int g1
  dsimp only at b1 d1
  obtain ⟨x2, rfl, b2, d2⟩ := aG_int g2
  dsimp only at b2 d2
  obtain ⟨x3, rfl, b3, d3⟩ := aG_int g3
  dsimp only at b3 d3
  obtain ⟨x4, rfl, b4, d4⟩ := aG_int g4
  dsimp only at b4 d4
  obtain ⟨m1, m2, m3, m4⟩ := hM0
  obtain ⟨M, hM⟩ := rMe_ex hH b0 d0
  obtain ⟨a0, c0, fs0, w0, e1, s0, t0, e4⟩ := m1 (0, 3, 4) (List.mem_of_getElem? (i := 0) rfl)
  obtain rfl : x0 = a0 := Sum.inl.inj (Option.some.inj (Sum.inr.inj (Sum.inr.inj (Option.some.inj (show some (rR x0) = some _ from e1)))))
  obtain rfl : rI x4 = w0 := Option.some.inj (show some (rI x4) = some w0 from e4)
  clear e1 e4
  have f0 : rB K n p 22 [rR x0] σ := by
    obtain ⟨w, e6, e7⟩ := m4 (353, [0]) (List.mem_of_getElem? (i := 0) rfl)
    obtain rfl : [rR x0] = w := Option.some.inj (show some [rR x0] = some w from e6)
    exact (rF_b (r := 353) (by decide) rfl).mp e7
  obtain ⟨hp, hR⟩ := ro_22.mp f0
  obtain rfl := rMg_u hM hR.1
  have uS : p.1.2.1 = x4.toInt := rRX_f hR.2.1 s0 t0
  have f1 : rB K n p 156 [rR x0, rI x1, rI x2, rI x3] σ := by
    obtain ⟨w, e6, e7⟩ := m4 (2500, [0, 1, 2, 3]) (List.mem_of_getElem? (i := 1) rfl)
    obtain rfl : [rR x0, rI x1, rI x2, rI x3] = w := Option.some.inj (show some [rR x0, rI x1, rI x2, rI x3] = some w from e6)
    exact (rF_b (r := 2500) (by decide) rfl).mp e7
  obtain ⟨M9, h9, f1⟩ := ro_156.mp f1
  obtain rfl := rMg_u hM h9
  clear h9
  clear m1 m2 m3 m4
  have q0 : rB K n p 42 [rI x1] σ := ro_42.mpr (by
    unfold rTk
    omega)
  exact ⟨p, fun _ => rfl, ⟨(fun q h => by cases h), fun q h => (by cases h), (fun f h => by cases h), (aAllc ⟨_, rfl, (rF_b (r := 673) (by decide) rfl).mpr q0⟩ (fun f h => by cases h))⟩, [], List.mem_cons_self, fun f h => (by cases h)⟩
theorem rw_rvP3nu0 {K : Nat → Nat} {n : Nat} {JX : (Nat → jcell) → Prop} : aGho (rF K n) fa_T K n JX ag_rvP3nu0 := by
  refine aGho_of ⟨rfl, rfl⟩ ?_
  intro p σ ρ hH hX hA hM0
  have hG := aAG_of hA.1 (fun i e v he hv => (hA.2 i e v he hv).1)
  clear hA
  obtain ⟨v0, v1, v2, v3, v4, v5, v6, v7, v8, rfl, g0, g1, g2, g3, g4, g5, g6, g7, g8⟩ := rA_9 hG
  clear hG
  obtain ⟨x0, rfl, b0, d0⟩ := rG_ref (by decide) g0
  obtain ⟨x1, rfl, b1, d1⟩ := aG_int g1
  dsimp only at b1 d1
  obtain ⟨x2, rfl, b2, d2⟩ := aG_int g2
  dsimp only at b2 d2
  obtain ⟨x3, rfl, b3, d3⟩ := aG_int g3
  dsimp only at b3 d3
  obtain ⟨x4, rfl⟩ := aG_lng g4
  obtain ⟨x5, rfl, b5, d5⟩ := aG_int g5
  dsimp only at b5 d5
  obtain ⟨x6, rfl, b6, d6⟩ := aG_int g6
  dsimp only at b6 d6
  obtain ⟨x7, rfl, b7, d7⟩ := aG_int g7
  dsimp only at b7 d7
  obtain ⟨x8, rfl, b8, d8⟩ := aG_int g8
  dsimp only at b8 d8
  obtain ⟨m1, m2, m3, m4⟩ := hM0
  obtain ⟨M, hM⟩ := rMe_ex hH b0 d0
  obtain ⟨a0, c0, fs0, w0, e1, s0, t0, e4⟩ := m1 (0, 3, 8) (List.mem_of_getElem? (i := 0) rfl)
  obtain rfl : x0 = a0 := Sum.inl.inj (Option.some.inj (Sum.inr.inj (Sum.inr.inj (Option.some.inj (show some (rR x0) = some _ from e1)))))
  obtain rfl : rI x8 = w0 := Option.some.inj (show some (rI x8) = some w0 from e4)
  clear e1 e4
  obtain ⟨a1, c1, fs1, w1, e1, s1, t1, e4⟩ := m1 (0, 5, 7) (List.mem_of_getElem? (i := 1) rfl)
  obtain rfl : x0 = a1 := Sum.inl.inj (Option.some.inj (Sum.inr.inj (Sum.inr.inj (Option.some.inj (show some (rR x0) = some _ from e1)))))
  obtain rfl : rI x7 = w1 := Option.some.inj (show some (rI x7) = some w1 from e4)
  clear e1 e4
  have l0 : 0 ≤ (1 * x3.toInt + (-1 * x7.toInt + 0)) + -1 := by
    obtain ⟨z, e6, e7⟩ := m3 ([(3, 1), (7, -1)], -1) (List.mem_of_getElem? (i := 0) rfl)
    obtain rfl : (1 * x3.toInt + (-1 * x7.toInt + 0)) = z := Option.some.inj (show some (1 * x3.toInt + (-1 * x7.toInt + 0)) = some z from e6)
    exact e7
  have f0 : rB K n p 22 [rR x0] σ := by
    obtain ⟨w, e6, e7⟩ := m4 (353, [0]) (List.mem_of_getElem? (i := 0) rfl)
    obtain rfl : [rR x0] = w := Option.some.inj (show some [rR x0] = some w from e6)
    exact (rF_b (r := 353) (by decide) rfl).mp e7
  obtain ⟨hp, hR⟩ := ro_22.mp f0
  obtain rfl := rMg_u hM hR.1
  have uS : p.1.2.1 = x8.toInt := rRX_f hR.2.1 s0 t0
  have uP : p.1.2.2.2 = x7.toInt := rRX_f hR.2.2.2 s1 t1
  have f1 : rB K n p 40 [rI x1, rI x2, rL x4] σ := by
    obtain ⟨w, e6, e7⟩ := m4 (643, [1, 2, 4]) (List.mem_of_getElem? (i := 1) rfl)
    obtain rfl : [rI x1, rI x2, rL x4] = w := Option.some.inj (show some [rI x1, rI x2, rL x4] = some w from e6)
    exact (rF_b (r := 643) (by decide) rfl).mp e7
  have f1 := ro_40.mp f1
  have f2 : rB K n p 46 [rI x1, rI x2, rI x3] σ := by
    obtain ⟨w, e6, e7⟩ := m4 (739, [1, 2, 3]) (List.mem_of_getElem? (i := 2) rfl)
    obtain rfl : [rI x1, rI x2, rI x3] = w := Option.some.inj (show some [rI x1, rI x2, rI x3] = some w from e6)
    exact (rF_b (r := 739) (by decide) rfl).mp e7
  have f2 := ro_46.mp f2
  have f3 : rB K n p 156 [rR x0, rI x3, rI x5, rI x6] σ := by
    obtain ⟨w, e6, e7⟩ := m4 (2500, [0, 3, 5, 6]) (List.mem_of_getElem? (i := 3) rfl)
    obtain rfl : [rR x0, rI x3, rI x5, rI x6] = w := Option.some.inj (show some [rR x0, rI x3, rI x5, rI x6] = some w from e6)
    exact (rF_b (r := 2500) (by decide) rfl).mp e7
  obtain ⟨M9, h9, f3⟩ := ro_156.mp f3
  obtain rfl := rMg_u hM h9
  clear h9
  clear m1 m2 m3 m4
  have q0 : rB K n p 41 [rI x1, rI x2, rL x4] σ := ro_41.mpr (by
    refine ⟨by omega, fun u h1 h2 => ?_⟩
    rw [f1.2 u h1 h2]
    constructor
    · rintro (h | ⟨f, h3, h4⟩)
      · exact Or.inl h
      · exact Or.inr ⟨f, by omega, h4⟩
    · rintro (h | ⟨f, h3, h4⟩)
      · exact Or.inl h
      · by_cases c : f = x2.toInt
        · obtain ⟨-, h5, h6, h7⟩ := h4
          rw [c, ← f2] at h6
          rw [h6] at h7
          unfold rTk at h7
          omega
        · have h5 := h4.1
          exact Or.inr ⟨f, by omega, h4⟩)
  exact ⟨p, fun _ => rfl, ⟨(fun q h => by cases h), fun q h => (by cases h), (fun f h => by cases h), (aAllc ⟨_, rfl, (rF_b (r := 659) (by decide) rfl).mpr q0⟩ (fun f h => by cases h))⟩, [], List.mem_cons_self, fun f h => (by cases h)⟩
theorem rw_rvP3nd0 {K : Nat → Nat} {n : Nat} {JX : (Nat → jcell) → Prop} : aGho (rF K n) fa_T K n JX ag_rvP3nd0 := by
  refine aGho_of ⟨rfl, rfl⟩ ?_
  intro p σ ρ hH hX hA hM0
  have hG := aAG_of hA.1 (fun i e v he hv => (hA.2 i e v he hv).1)
  clear hA
  obtain ⟨v0, v1, v2, v3, v4, v5, v6, v7, v8, rfl, g0, g1, g2, g3, g4, g5, g6, g7, g8⟩ := rA_9 hG
  clear hG
  obtain ⟨x0, rfl, b0, d0⟩ := rG_ref (by decide) g0
  obtain ⟨x1, rfl, b1, d1⟩ := aG_int g1
  dsimp only at b1 d1
  obtain ⟨x2, rfl, b2, d2⟩ := aG_int g2
  dsimp only at b2 d2
  obtain ⟨x3, rfl, b3, d3⟩ := aG_int g3
  dsimp only at b3 d3
  obtain ⟨x4, rfl⟩ := aG_lng g4
  obtain ⟨x5, rfl, b5, d5⟩ := aG_int g5
  dsimp only at b5 d5
  obtain ⟨x6, rfl, b6, d6⟩ := aG_int g6
  dsimp only at b6 d6
  obtain ⟨x7, rfl, b7, d7⟩ := aG_int g7
  dsimp only at b7 d7
  obtain ⟨x8, rfl, b8, d8⟩ := aG_int g8
  dsimp only at b8 d8
  obtain ⟨m1, m2, m3, m4⟩ := hM0
  obtain ⟨M, hM⟩ := rMe_ex hH b0 d0
  obtain ⟨a0, c0, fs0, w0, e1, s0, t0, e4⟩ := m1 (0, 3, 8) (List.mem_of_getElem? (i := 0) rfl)
  obtain rfl : x0 = a0 := Sum.inl.inj (Option.some.inj (Sum.inr.inj (Sum.inr.inj (Option.some.inj (show some (rR x0) = some _ from e1)))))
  obtain rfl : rI x8 = w0 := Option.some.inj (show some (rI x8) = some w0 from e4)
  clear e1 e4
  obtain ⟨a1, c1, fs1, w1, e1, s1, t1, e4⟩ := m1 (0, 5, 7) (List.mem_of_getElem? (i := 1) rfl)
  obtain rfl : x0 = a1 := Sum.inl.inj (Option.some.inj (Sum.inr.inj (Sum.inr.inj (Option.some.inj (show some (rR x0) = some _ from e1)))))
  obtain rfl : rI x7 = w1 := Option.some.inj (show some (rI x7) = some w1 from e4)
  clear e1 e4
  have l0 : 0 ≤ (-1 * x3.toInt + (1 * x7.toInt + 0)) + -1 := by
    obtain ⟨z, e6, e7⟩ := m3 ([(3, -1), (7, 1)], -1) (List.mem_of_getElem? (i := 0) rfl)
    obtain rfl : (-1 * x3.toInt + (1 * x7.toInt + 0)) = z := Option.some.inj (show some (-1 * x3.toInt + (1 * x7.toInt + 0)) = some z from e6)
    exact e7
  have f0 : rB K n p 22 [rR x0] σ := by
    obtain ⟨w, e6, e7⟩ := m4 (353, [0]) (List.mem_of_getElem? (i := 0) rfl)
    obtain rfl : [rR x0] = w := Option.some.inj (show some [rR x0] = some w from e6)
    exact (rF_b (r := 353) (by decide) rfl).mp e7
  obtain ⟨hp, hR⟩ := ro_22.mp f0
  obtain rfl := rMg_u hM hR.1
  have uS : p.1.2.1 = x8.toInt := rRX_f hR.2.1 s0 t0
  have uP : p.1.2.2.2 = x7.toInt := rRX_f hR.2.2.2 s1 t1
  have f1 : rB K n p 40 [rI x1, rI x2, rL x4] σ := by
    obtain ⟨w, e6, e7⟩ := m4 (643, [1, 2, 4]) (List.mem_of_getElem? (i := 1) rfl)
    obtain rfl : [rI x1, rI x2, rL x4] = w := Option.some.inj (show some [rI x1, rI x2, rL x4] = some w from e6)
    exact (rF_b (r := 643) (by decide) rfl).mp e7
  have f1 := ro_40.mp f1
  have f2 : rB K n p 46 [rI x1, rI x2, rI x3] σ := by
    obtain ⟨w, e6, e7⟩ := m4 (739, [1, 2, 3]) (List.mem_of_getElem? (i := 2) rfl)
    obtain rfl : [rI x1, rI x2, rI x3] = w := Option.some.inj (show some [rI x1, rI x2, rI x3] = some w from e6)
    exact (rF_b (r := 739) (by decide) rfl).mp e7
  have f2 := ro_46.mp f2
  have f3 : rB K n p 156 [rR x0, rI x3, rI x5, rI x6] σ := by
    obtain ⟨w, e6, e7⟩ := m4 (2500, [0, 3, 5, 6]) (List.mem_of_getElem? (i := 3) rfl)
    obtain rfl : [rR x0, rI x3, rI x5, rI x6] = w := Option.some.inj (show some [rR x0, rI x3, rI x5, rI x6] = some w from e6)
    exact (rF_b (r := 2500) (by decide) rfl).mp e7
  obtain ⟨M9, h9, f3⟩ := ro_156.mp f3
  obtain rfl := rMg_u hM h9
  clear h9
  clear m1 m2 m3 m4
  have q0 : rB K n p 41 [rI x1, rI x2, rL x4] σ := ro_41.mpr (by
    refine ⟨by omega, fun u h1 h2 => ?_⟩
    rw [f1.2 u h1 h2]
    constructor
    · rintro (h | ⟨f, h3, h4⟩)
      · exact Or.inl h
      · exact Or.inr ⟨f, by omega, h4⟩
    · rintro (h | ⟨f, h3, h4⟩)
      · exact Or.inl h
      · by_cases c : f = x2.toInt
        · obtain ⟨-, h5, h6, h7⟩ := h4
          rw [c, ← f2] at h6
          rw [h6] at h7
          unfold rTk at h7
          omega
        · have h5 := h4.1
          exact Or.inr ⟨f, by omega, h4⟩)
  exact ⟨p, fun _ => rfl, ⟨(fun q h => by cases h), fun q h => (by cases h), (fun f h => by cases h), (aAllc ⟨_, rfl, (rF_b (r := 659) (by decide) rfl).mpr q0⟩ (fun f h => by cases h))⟩, [], List.mem_cons_self, fun f h => (by cases h)⟩
theorem rw_rvPON1 {K : Nat → Nat} {n : Nat} {JX : (Nat → jcell) → Prop} : aGho (rF K n) fa_T K n JX ag_rvPON1 := by
  refine aGho_of ⟨rfl, rfl⟩ ?_
  intro p σ ρ hH hX hA hM0
  have hG := aAG_of hA.1 (fun i e v he hv => (hA.2 i e v he hv).1)
  clear hA
  obtain ⟨v0, v1, v2, v3, v4, v5, rfl, g0, g1, g2, g3, g4, g5⟩ := rA_6 hG
  clear hG
  obtain ⟨x0, rfl, b0, d0⟩ := rG_ref (by decide) g0
  obtain ⟨x1, rfl, b1, d1⟩ := aG_int g1
  dsimp only at b1 d1
  obtain ⟨x2, rfl, b2, d2⟩ := aG_int g2
  dsimp only at b2 d2
  obtain ⟨x3, rfl, b3, d3⟩ := aG_int g3
  dsimp only at b3 d3
  obtain ⟨x4, rfl, b4, d4⟩ := aG_int g4
  dsimp only at b4 d4
  obtain ⟨x5, rfl, b5, d5⟩ := aG_int g5
  dsimp only at b5 d5
  obtain ⟨m1, m2, m3, m4⟩ := hM0
  obtain ⟨M, hM⟩ := rMe_ex hH b0 d0
  obtain ⟨a0, c0, fs0, w0, e1, s0, t0, e4⟩ := m1 (0, 3, 5) (List.mem_of_getElem? (i := 0) rfl)
  obtain rfl : x0 = a0 := Sum.inl.inj (Option.some.inj (Sum.inr.inj (Sum.inr.inj (Option.some.inj (show some (rR x0) = some _ from e1)))))
  obtain rfl : rI x5 = w0 := Option.some.inj (show some (rI x5) = some w0 from e4)
  clear e1 e4
  have f0 : rB K n p 22 [rR x0] σ := by
    obtain ⟨w, e6, e7⟩ := m4 (353, [0]) (List.mem_of_getElem? (i := 0) rfl)
    obtain rfl : [rR x0] = w := Option.some.inj (show some [rR x0] = some w from e6)
    exact (rF_b (r := 353) (by decide) rfl).mp e7
  obtain ⟨hp, hR⟩ := ro_22.mp f0
  obtain rfl := rMg_u hM hR.1
  have uS : p.1.2.1 = x5.toInt := rRX_f hR.2.1 s0 t0
  have f1 : rB K n p 120 [rI x1, rI x2, rI x3, rI x4] σ := by
    obtain ⟨w, e6, e7⟩ := m4 (1924, [1, 2, 3, 4]) (List.mem_of_getElem? (i := 1) rfl)
    obtain rfl : [rI x1, rI x2, rI x3, rI x4] = w := Option.some.inj (show some [rI x1, rI x2, rI x3, rI x4] = some w from e6)
    exact (rF_b (r := 1924) (by decide) rfl).mp e7
  have f1 := ro_120.mp f1
  clear m1 m2 m3 m4
  have q0 : rB K n p 35 [rI x1, rI x4] σ := ro_35.mpr (by
    rw [f1]
    unfold rUpw
    rw [show x2.toInt = 0 by omega, show x3.toInt = 1 - 2 * p.1.2.1 by omega])
  exact ⟨p, fun _ => rfl, ⟨(fun q h => by cases h), fun q h => (by cases h), (fun f h => by cases h), (aAllc ⟨_, rfl, (rF_b (r := 562) (by decide) rfl).mpr q0⟩ (fun f h => by cases h))⟩, [], List.mem_cons_self, fun f h => (by cases h)⟩
theorem rw_rvTW1 {K : Nat → Nat} {n : Nat} {JX : (Nat → jcell) → Prop} : aGho (rF K n) fa_T K n JX ag_rvTW1 := by
  refine aGho_of ⟨rfl, rfl⟩ ?_
  intro p σ ρ hH hX hA hM0
  have hG := aAG_of hA.1 (fun i e v he hv => (hA.2 i e v he hv).1)
  clear hA
  obtain ⟨v0, v1, v2, v3, v4, v5, rfl, g0, g1, g2, g3, g4, g5⟩ := rA_6 hG
  clear hG
  obtain ⟨x0, rfl, b0, d0⟩ := rG_ref (by decide) g0
  obtain ⟨x1, rfl, b1, d1⟩ := aG_int g1
  dsimp only at b1 d1
  obtain ⟨x2, rfl, b2, d2⟩ := aG_int g2
  dsimp only at b2 d2
  obtain ⟨x3, rfl, b3, d3⟩ := aG_int g3
  dsimp only at b3 d3
  obtain ⟨x4, rfl, b4, d4⟩ := aG_int g4
  dsimp only at b4 d4
  obtain ⟨x5, rfl, b5, d5⟩ := aG_int g5
  dsimp only at b5 d5
  obtain ⟨m1, m2, m3, m4⟩ := hM0
  obtain ⟨M, hM⟩ := rMe_ex hH b0 d0
  obtain ⟨a0, c0, fs0, w0, e1, s0, t0, e4⟩ := m1 (0, 3, 5) (List.mem_of_getElem? (i := 0) rfl)
  obtain rfl : x0 = a0 := Sum.inl.inj (Option.some.inj (Sum.inr.inj (Sum.inr.inj (Option.some.inj (show some (rR x0) = some _ from e1)))))
  obtain rfl : rI x5 = w0 := Option.some.inj (show some (rI x5) = some w0 from e4)
  clear e1 e4
  have f0 : rB K n p 22 [rR x0] σ := by
    obtain ⟨w, e6, e7⟩ := m4 (353, [0]) (List.mem_of_getElem? (i := 0) rfl)
    obtain rfl : [rR x0] = w := Option.some.inj (show some [rR x0] = some w from e6)
    exact (rF_b (r := 353) (by decide) rfl).mp e7
  obtain ⟨hp, hR⟩ := ro_22.mp f0
  obtain rfl := rMg_u hM hR.1
  have uS : p.1.2.1 = x5.toInt := rRX_f hR.2.1 s0 t0
  have f1 : rB K n p 120 [rI x1, rI x2, rI x3, rI x4] σ := by
    obtain ⟨w, e6, e7⟩ := m4 (1924, [1, 2, 3, 4]) (List.mem_of_getElem? (i := 1) rfl)
    obtain rfl : [rI x1, rI x2, rI x3, rI x4] = w := Option.some.inj (show some [rI x1, rI x2, rI x3, rI x4] = some w from e6)
    exact (rF_b (r := 1924) (by decide) rfl).mp e7
  have f1 := ro_120.mp f1
  clear m1 m2 m3 m4
  have q0 : rB K n p 36 [rI x1, rI x4] σ := ro_36.mpr (by
    rw [f1]
    unfold rUpw
    rw [show x2.toInt = 0 by omega, show x3.toInt = 1 - 2 * p.1.2.1 by omega])
  exact ⟨p, fun _ => rfl, ⟨(fun q h => by cases h), fun q h => (by cases h), (fun f h => by cases h), (aAllc ⟨_, rfl, (rF_b (r := 578) (by decide) rfl).mpr q0⟩ (fun f h => by cases h))⟩, [], List.mem_cons_self, fun f h => (by cases h)⟩
theorem rw_rvP2p1 {K : Nat → Nat} {n : Nat} {JX : (Nat → jcell) → Prop} : aGho (rF K n) fa_T K n JX ag_rvP2p1 := by
  refine aGho_of ⟨rfl, rfl⟩ ?_
  intro p σ ρ hH hX hA hM0
  have hG := aAG_of hA.1 (fun i e v he hv => (hA.2 i e v he hv).1)
  clear hA
  obtain ⟨v0, v1, v2, v3, v4, v5, rfl, g0, g1, g2, g3, g4, g5⟩ := rA_6 hG
  clear hG
  obtain ⟨x0, rfl, b0, d0⟩ := rG_ref (by decide) g0
  obtain ⟨x1, rfl, b1, d1⟩ := aG_int g1
  dsimp only at b1 d1
  obtain ⟨x2, rfl, b2, d2⟩ := aG_int g2
  dsimp only at b2 d2
  obtain ⟨x3, rfl, b3, d3⟩ := aG_int g3
  dsimp only at b3 d3
  obtain ⟨x4, rfl, b4, d4⟩ := aG_int g4
  dsimp only at b4 d4
  obtain ⟨x5, rfl, b5, d5⟩ := aG_int g5
  dsimp only at b5 d5
  obtain ⟨m1, m2, m3, m4⟩ := hM0
  obtain ⟨M, hM⟩ := rMe_ex hH b0 d0
  obtain ⟨a0, c0, fs0, w0, e1, s0, t0, e4⟩ := m1 (0, 3, 5) (List.mem_of_getElem? (i := 0) rfl)
  obtain rfl : x0 = a0 := Sum.inl.inj (Option.some.inj (Sum.inr.inj (Sum.inr.inj (Option.some.inj (show some (rR x0) = some _ from e1)))))
  obtain rfl : rI x5 = w0 := Option.some.inj (show some (rI x5) = some w0 from e4)
  clear e1 e4
  have f0 : rB K n p 22 [rR x0] σ := by
    obtain ⟨w, e6, e7⟩ := m4 (353, [0]) (List.mem_of_getElem? (i := 0) rfl)
    obtain rfl : [rR x0] = w := Option.some.inj (show some [rR x0] = some w from e6)
    exact (rF_b (r := 353) (by decide) rfl).mp e7
  obtain ⟨hp, hR⟩ := ro_22.mp f0
  obtain rfl := rMg_u hM hR.1
  have uS : p.1.2.1 = x5.toInt := rRX_f hR.2.1 s0 t0
  have f1 : rB K n p 35 [rI x1, rI x2] σ := by
    obtain ⟨w, e6, e7⟩ := m4 (562, [1, 2]) (List.mem_of_getElem? (i := 1) rfl)
    obtain rfl : [rI x1, rI x2] = w := Option.some.inj (show some [rI x1, rI x2] = some w from e6)
    exact (rF_b (r := 562) (by decide) rfl).mp e7
  have f1 := ro_35.mp f1
  have f2 : rB K n p 36 [rI x2, rI x3] σ := by
    obtain ⟨w, e6, e7⟩ := m4 (578, [2, 3]) (List.mem_of_getElem? (i := 2) rfl)
    obtain rfl : [rI x2, rI x3] = w := Option.some.inj (show some [rI x2, rI x3] = some w from e6)
    exact (rF_b (r := 578) (by decide) rfl).mp e7
  have f2 := ro_36.mp f2
  have f3 : rB K n p 157 [rI x1, rI x4] σ := by
    obtain ⟨w, e6, e7⟩ := m4 (2514, [1, 4]) (List.mem_of_getElem? (i := 3) rfl)
    obtain rfl : [rI x1, rI x4] = w := Option.some.inj (show some [rI x1, rI x4] = some w from e6)
    exact (rF_b (r := 2514) (by decide) rfl).mp e7
  have f3 := ro_157.mp f3
  clear m1 m2 m3 m4
  have r0 : 0 ≤ (1 * x3.toInt + 0) + 0 := by
    have h1 := f1
    have h2 := f2
    unfold rSp rUpw at h1 h2
    split at h1
    · split at h2 <;> omega
    · omega
  exact ⟨p, fun _ => rfl, ⟨(fun q h => by cases h), fun q h => (by cases h), (aAllc ⟨_, rfl, r0⟩ (fun f h => by cases h)), (fun f h => by cases h)⟩, [], List.mem_cons_self, fun f h => (by cases h)⟩
theorem rw_rvPd11 {K : Nat → Nat} {n : Nat} {JX : (Nat → jcell) → Prop} : aGho (rF K n) fa_T K n JX ag_rvPd11 := by
  refine aGho_of ⟨rfl, rfl⟩ ?_
  intro p σ ρ hH hX hA hM0
  have hG := aAG_of hA.1 (fun i e v he hv => (hA.2 i e v he hv).1)
  clear hA
  obtain ⟨v0, v1, v2, v3, v4, v5, v6, v7, v8, v9, rfl, g0, g1, g2, g3, g4, g5, g6, g7, g8, g9⟩ := rA_10 hG
  clear hG
  obtain ⟨x0, rfl, b0, d0⟩ := rG_ref (by decide) g0
  obtain ⟨x1, rfl, b1, d1⟩ := aG_int g1
  dsimp only at b1 d1
  obtain ⟨x2, rfl, b2, d2⟩ := aG_int g2
  dsimp only at b2 d2
  obtain ⟨x3, rfl, b3, d3⟩ := aG_int g3
  dsimp only at b3 d3
  obtain ⟨x4, rfl, b4, d4⟩ := aG_int g4
  dsimp only at b4 d4
  obtain ⟨x5, rfl, b5, d5⟩ := aG_int g5
  dsimp only at b5 d5
  obtain ⟨x6, rfl⟩ := aG_lng g6
  obtain ⟨x7, rfl⟩ := aG_lng g7
  obtain ⟨x8, rfl⟩ := aG_lng g8
  obtain ⟨x9, rfl, b9, d9⟩ := aG_int g9
  dsimp only at b9 d9
  obtain ⟨m1, m2, m3, m4⟩ := hM0
  obtain ⟨M, hM⟩ := rMe_ex hH b0 d0
  obtain ⟨a0, c0, fs0, w0, e1, s0, t0, e4⟩ := m1 (0, 3, 9) (List.mem_of_getElem? (i := 0) rfl)
  obtain rfl : x0 = a0 := Sum.inl.inj (Option.some.inj (Sum.inr.inj (Sum.inr.inj (Option.some.inj (show some (rR x0) = some _ from e1)))))
  obtain rfl : rI x9 = w0 := Option.some.inj (show some (rI x9) = some w0 from e4)
  clear e1 e4
  have f0 : rB K n p 22 [rR x0] σ := by
    obtain ⟨w, e6, e7⟩ := m4 (353, [0]) (List.mem_of_getElem? (i := 0) rfl)
    obtain rfl : [rR x0] = w := Option.some.inj (show some [rR x0] = some w from e6)
    exact (rF_b (r := 353) (by decide) rfl).mp e7
  obtain ⟨hp, hR⟩ := ro_22.mp f0
  obtain rfl := rMg_u hM hR.1
  have uS : p.1.2.1 = x9.toInt := rRX_f hR.2.1 s0 t0
  have f1 : rB K n p 38 [rI x1, rI x2, rL x6] σ := by
    obtain ⟨w, e6, e7⟩ := m4 (611, [1, 2, 6]) (List.mem_of_getElem? (i := 1) rfl)
    obtain rfl : [rI x1, rI x2, rL x6] = w := Option.some.inj (show some [rI x1, rI x2, rL x6] = some w from e6)
    exact (rF_b (r := 611) (by decide) rfl).mp e7
  have f1 := ro_38.mp f1
  have f2 : rB K n p 36 [rI x2, rI x3] σ := by
    obtain ⟨w, e6, e7⟩ := m4 (578, [2, 3]) (List.mem_of_getElem? (i := 2) rfl)
    obtain rfl : [rI x2, rI x3] = w := Option.some.inj (show some [rI x2, rI x3] = some w from e6)
    exact (rF_b (r := 578) (by decide) rfl).mp e7
  have f2 := ro_36.mp f2
  have f3 : rB K n p 157 [rI x1, rI x4] σ := by
    obtain ⟨w, e6, e7⟩ := m4 (2514, [1, 4]) (List.mem_of_getElem? (i := 3) rfl)
    obtain rfl : [rI x1, rI x4] = w := Option.some.inj (show some [rI x1, rI x4] = some w from e6)
    exact (rF_b (r := 2514) (by decide) rfl).mp e7
  have f3 := ro_157.mp f3
  have f4 : rB K n p 37 [rI x3, rI x5] σ := by
    obtain ⟨w, e6, e7⟩ := m4 (594, [3, 5]) (List.mem_of_getElem? (i := 4) rfl)
    obtain rfl : [rI x3, rI x5] = w := Option.some.inj (show some [rI x3, rI x5] = some w from e6)
    exact (rF_b (r := 594) (by decide) rfl).mp e7
  have f4 := ro_37.mp f4
  have f5 : rB K n p 141 [rI x3, rL x7] σ := by
    obtain ⟨w, e6, e7⟩ := m4 (2258, [3, 7]) (List.mem_of_getElem? (i := 5) rfl)
    obtain rfl : [rI x3, rL x7] = w := Option.some.inj (show some [rI x3, rL x7] = some w from e6)
    exact (rF_b (r := 2258) (by decide) rfl).mp e7
  have f5 := ro_141.mp f5
  have f6 : rB K n p 100 [rL x6, rL x7, rL x8] σ := by
    obtain ⟨w, e6, e7⟩ := m4 (1603, [6, 7, 8]) (List.mem_of_getElem? (i := 6) rfl)
    obtain rfl : [rL x6, rL x7, rL x8] = w := Option.some.inj (show some [rL x6, rL x7, rL x8] = some w from e6)
    exact (rF_b (r := 1603) (by decide) rfl).mp e7
  have f6 : x8 = x6 ||| x7 := Sum.inl.inj (Sum.inr.inj (ro_100.mp f6))
  clear m1 m2 m3 m4
  have q0 : rB K n p 39 [rI x1, rL x8] σ := ro_39.mpr (by
    intro u h1 h2
    rw [f6, rBt_or, f1.2.2 u h1 h2, f5 u h1 h2]
    unfold rPF
    rw [← f1.1, ← f2]
    constructor
    · rintro (h | h)
      · exact ⟨b2, f1.2.1, Or.inl h⟩
      · exact ⟨b2, f1.2.1, Or.inr ⟨by omega, h, by rw [h]; omega⟩⟩
    · rintro ⟨-, -, h | ⟨-, h, -⟩⟩
      · exact Or.inl h
      · exact Or.inr h)
  exact ⟨p, fun _ => rfl, ⟨(fun q h => by cases h), fun q h => (by cases h), (fun f h => by cases h), (aAllc ⟨_, rfl, (rF_b (r := 626) (by decide) rfl).mpr q0⟩ (fun f h => by cases h))⟩, [], List.mem_cons_self, fun f h => (by cases h)⟩
theorem rw_rvPc01 {K : Nat → Nat} {n : Nat} {JX : (Nat → jcell) → Prop} : aGho (rF K n) fa_T K n JX ag_rvPc01 := by
  refine aGho_of ⟨rfl, rfl⟩ ?_
  intro p σ ρ hH hX hA hM0
  have hG := aAG_of hA.1 (fun i e v he hv => (hA.2 i e v he hv).1)
  clear hA
  obtain ⟨v0, v1, v2, v3, v4, v5, rfl, g0, g1, g2, g3, g4, g5⟩ := rA_6 hG
  clear hG
  obtain ⟨x0, rfl, b0, d0⟩ := rG_ref (by decide) g0
  obtain ⟨x1, rfl, b1, d1⟩ := aG_int g1
  dsimp only at b1 d1
  obtain ⟨x2, rfl, b2, d2⟩ := aG_int g2
  dsimp only at b2 d2
  obtain ⟨x3, rfl, b3, d3⟩ := aG_int g3
  dsimp only at b3 d3
  obtain ⟨x4, rfl⟩ := aG_lng g4
  obtain ⟨x5, rfl, b5, d5⟩ := aG_int g5
  dsimp only at b5 d5
  obtain ⟨m1, m2, m3, m4⟩ := hM0
  obtain ⟨M, hM⟩ := rMe_ex hH b0 d0
  obtain ⟨a0, c0, fs0, w0, e1, s0, t0, e4⟩ := m1 (0, 3, 5) (List.mem_of_getElem? (i := 0) rfl)
  obtain rfl : x0 = a0 := Sum.inl.inj (Option.some.inj (Sum.inr.inj (Sum.inr.inj (Option.some.inj (show some (rR x0) = some _ from e1)))))
  obtain rfl : rI x5 = w0 := Option.some.inj (show some (rI x5) = some w0 from e4)
  clear e1 e4
  have f0 : rB K n p 22 [rR x0] σ := by
    obtain ⟨w, e6, e7⟩ := m4 (353, [0]) (List.mem_of_getElem? (i := 0) rfl)
    obtain rfl : [rR x0] = w := Option.some.inj (show some [rR x0] = some w from e6)
    exact (rF_b (r := 353) (by decide) rfl).mp e7
  obtain ⟨hp, hR⟩ := ro_22.mp f0
  obtain rfl := rMg_u hM hR.1
  have uS : p.1.2.1 = x5.toInt := rRX_f hR.2.1 s0 t0
  have f1 : rB K n p 38 [rI x1, rI x2, rL x4] σ := by
    obtain ⟨w, e6, e7⟩ := m4 (611, [1, 2, 4]) (List.mem_of_getElem? (i := 1) rfl)
    obtain rfl : [rI x1, rI x2, rL x4] = w := Option.some.inj (show some [rI x1, rI x2, rL x4] = some w from e6)
    exact (rF_b (r := 611) (by decide) rfl).mp e7
  have f1 := ro_38.mp f1
  have f2 : rB K n p 157 [rI x1, rI x3] σ := by
    obtain ⟨w, e6, e7⟩ := m4 (2514, [1, 3]) (List.mem_of_getElem? (i := 2) rfl)
    obtain rfl : [rI x1, rI x3] = w := Option.some.inj (show some [rI x1, rI x3] = some w from e6)
    exact (rF_b (r := 2514) (by decide) rfl).mp e7
  have f2 := ro_157.mp f2
  clear m1 m2 m3 m4
  have q0 : rB K n p 39 [rI x1, rL x4] σ := ro_39.mpr (by
    intro u h1 h2
    rw [f1.2.2 u h1 h2]
    unfold rPF
    rw [← f1.1]
    constructor
    · intro h
      exact ⟨b2, f1.2.1, Or.inl h⟩
    · rintro ⟨-, -, h | ⟨h, -⟩⟩
      · exact h
      · omega)
  exact ⟨p, fun _ => rfl, ⟨(fun q h => by cases h), fun q h => (by cases h), (fun f h => by cases h), (aAllc ⟨_, rfl, (rF_b (r := 626) (by decide) rfl).mpr q0⟩ (fun f h => by cases h))⟩, [], List.mem_cons_self, fun f h => (by cases h)⟩
theorem rw_rvPc11 {K : Nat → Nat} {n : Nat} {JX : (Nat → jcell) → Prop} : aGho (rF K n) fa_T K n JX ag_rvPc11 := by
  refine aGho_of ⟨rfl, rfl⟩ ?_
  intro p σ ρ hH hX hA hM0
  have hG := aAG_of hA.1 (fun i e v he hv => (hA.2 i e v he hv).1)
  clear hA
  obtain ⟨v0, v1, v2, v3, v4, v5, rfl, g0, g1, g2, g3, g4, g5⟩ := rA_6 hG
  clear hG
  obtain ⟨x0, rfl, b0, d0⟩ := rG_ref (by decide) g0
  obtain ⟨x1, rfl, b1, d1⟩ := aG_int g1
  dsimp only at b1 d1
  obtain ⟨x2, rfl, b2, d2⟩ := aG_int g2
  dsimp only at b2 d2
  obtain ⟨x3, rfl, b3, d3⟩ := aG_int g3
  dsimp only at b3 d3
  obtain ⟨x4, rfl⟩ := aG_lng g4
  obtain ⟨x5, rfl, b5, d5⟩ := aG_int g5
  dsimp only at b5 d5
  obtain ⟨m1, m2, m3, m4⟩ := hM0
  obtain ⟨M, hM⟩ := rMe_ex hH b0 d0
  obtain ⟨a0, c0, fs0, w0, e1, s0, t0, e4⟩ := m1 (0, 3, 5) (List.mem_of_getElem? (i := 0) rfl)
  obtain rfl : x0 = a0 := Sum.inl.inj (Option.some.inj (Sum.inr.inj (Sum.inr.inj (Option.some.inj (show some (rR x0) = some _ from e1)))))
  obtain rfl : rI x5 = w0 := Option.some.inj (show some (rI x5) = some w0 from e4)
  clear e1 e4
  have f0 : rB K n p 22 [rR x0] σ := by
    obtain ⟨w, e6, e7⟩ := m4 (353, [0]) (List.mem_of_getElem? (i := 0) rfl)
    obtain rfl : [rR x0] = w := Option.some.inj (show some [rR x0] = some w from e6)
    exact (rF_b (r := 353) (by decide) rfl).mp e7
  obtain ⟨hp, hR⟩ := ro_22.mp f0
  obtain rfl := rMg_u hM hR.1
  have uS : p.1.2.1 = x5.toInt := rRX_f hR.2.1 s0 t0
  have f1 : rB K n p 38 [rI x1, rI x2, rL x4] σ := by
    obtain ⟨w, e6, e7⟩ := m4 (611, [1, 2, 4]) (List.mem_of_getElem? (i := 1) rfl)
    obtain rfl : [rI x1, rI x2, rL x4] = w := Option.some.inj (show some [rI x1, rI x2, rL x4] = some w from e6)
    exact (rF_b (r := 611) (by decide) rfl).mp e7
  have f1 := ro_38.mp f1
  have f2 : rB K n p 157 [rI x1, rI x3] σ := by
    obtain ⟨w, e6, e7⟩ := m4 (2514, [1, 3]) (List.mem_of_getElem? (i := 2) rfl)
    obtain rfl : [rI x1, rI x3] = w := Option.some.inj (show some [rI x1, rI x3] = some w from e6)
    exact (rF_b (r := 2514) (by decide) rfl).mp e7
  have f2 := ro_157.mp f2
  clear m1 m2 m3 m4
  have q0 : rB K n p 39 [rI x1, rL x4] σ := ro_39.mpr (by
    intro u h1 h2
    rw [f1.2.2 u h1 h2]
    unfold rPF
    rw [← f1.1]
    constructor
    · intro h
      exact ⟨b2, f1.2.1, Or.inl h⟩
    · rintro ⟨-, -, h | ⟨h, -⟩⟩
      · exact h
      · omega)
  exact ⟨p, fun _ => rfl, ⟨(fun q h => by cases h), fun q h => (by cases h), (fun f h => by cases h), (aAllc ⟨_, rfl, (rF_b (r := 626) (by decide) rfl).mpr q0⟩ (fun f h => by cases h))⟩, [], List.mem_cons_self, fun f h => (by cases h)⟩
theorem rw_rvPd1 {K : Nat → Nat} {n : Nat} {JX : (Nat → jcell) → Prop} : aGho (rF K n) fa_T K n JX ag_rvPd1 := by
  refine aGho_of ⟨rfl, rfl⟩ ?_
  intro p σ ρ hH hX hA hM0
  have hG := aAG_of hA.1 (fun i e v he hv => (hA.2 i e v he hv).1)
  clear hA
  obtain ⟨v0, v1, v2, v3, v4, v5, v6, v7, rfl, g0, g1, g2, g3, g4, g5, g6, g7⟩ := rA_8 hG
  clear hG
  obtain ⟨x0, rfl, b0, d0⟩ := rG_ref (by decide) g0
  obtain ⟨x1, rfl, b1, d1⟩ := aG_int g1
  dsimp only at b1 d1
  obtain ⟨x2, rfl, b2, d2⟩ := aG_int g2
  dsimp only at b2 d2
  obtain ⟨x3, rfl, b3, d3⟩ := aG_int g3
  dsimp only at b3 d3
  obtain ⟨x4, rfl, b4, d4⟩ := aG_int g4
  dsimp only at b4 d4
  obtain ⟨x5, rfl, b5, d5⟩ := aG_int g5
  dsimp only at b5 d5
  obtain ⟨x6, rfl⟩ := aG_lng g6
  obtain ⟨x7, rfl, b7, d7⟩ := aG_int g7
  dsimp only at b7 d7
  obtain ⟨m1, m2, m3, m4⟩ := hM0
  obtain ⟨M, hM⟩ := rMe_ex hH b0 d0
  obtain ⟨a0, c0, fs0, w0, e1, s0, t0, e4⟩ := m1 (0, 3, 7) (List.mem_of_getElem? (i := 0) rfl)
  obtain rfl : x0 = a0 := Sum.inl.inj (Option.some.inj (Sum.inr.inj (Sum.inr.inj (Option.some.inj (show some (rR x0) = some _ from e1)))))
  obtain rfl : rI x7 = w0 := Option.some.inj (show some (rI x7) = some w0 from e4)
  clear e1 e4
  have f0 : rB K n p 22 [rR x0] σ := by
    obtain ⟨w, e6, e7⟩ := m4 (353, [0]) (List.mem_of_getElem? (i := 0) rfl)
    obtain rfl : [rR x0] = w := Option.some.inj (show some [rR x0] = some w from e6)
    exact (rF_b (r := 353) (by decide) rfl).mp e7
  obtain ⟨hp, hR⟩ := ro_22.mp f0
  obtain rfl := rMg_u hM hR.1
  have uS : p.1.2.1 = x7.toInt := rRX_f hR.2.1 s0 t0
  have f1 : rB K n p 38 [rI x1, rI x2, rL x6] σ := by
    obtain ⟨w, e6, e7⟩ := m4 (611, [1, 2, 6]) (List.mem_of_getElem? (i := 1) rfl)
    obtain rfl : [rI x1, rI x2, rL x6] = w := Option.some.inj (show some [rI x1, rI x2, rL x6] = some w from e6)
    exact (rF_b (r := 611) (by decide) rfl).mp e7
  have f1 := ro_38.mp f1
  have f2 : rB K n p 36 [rI x2, rI x3] σ := by
    obtain ⟨w, e6, e7⟩ := m4 (578, [2, 3]) (List.mem_of_getElem? (i := 2) rfl)
    obtain rfl : [rI x2, rI x3] = w := Option.some.inj (show some [rI x2, rI x3] = some w from e6)
    exact (rF_b (r := 578) (by decide) rfl).mp e7
  have f2 := ro_36.mp f2
  have f3 : rB K n p 157 [rI x1, rI x4] σ := by
    obtain ⟨w, e6, e7⟩ := m4 (2514, [1, 4]) (List.mem_of_getElem? (i := 3) rfl)
    obtain rfl : [rI x1, rI x4] = w := Option.some.inj (show some [rI x1, rI x4] = some w from e6)
    exact (rF_b (r := 2514) (by decide) rfl).mp e7
  have f3 := ro_157.mp f3
  have f4 : rB K n p 37 [rI x3, rI x5] σ := by
    obtain ⟨w, e6, e7⟩ := m4 (594, [3, 5]) (List.mem_of_getElem? (i := 4) rfl)
    obtain rfl : [rI x3, rI x5] = w := Option.some.inj (show some [rI x3, rI x5] = some w from e6)
    exact (rF_b (r := 594) (by decide) rfl).mp e7
  have f4 := ro_37.mp f4
  clear m1 m2 m3 m4
  have q0 : rB K n p 39 [rI x1, rL x6] σ := ro_39.mpr (by
    intro u h1 h2
    rw [f1.2.2 u h1 h2]
    unfold rPF
    rw [← f1.1, ← f2]
    constructor
    · intro h
      exact ⟨b2, f1.2.1, Or.inl h⟩
    · rintro ⟨-, -, h | ⟨-, h, h3⟩⟩
      · exact h
      · rw [h] at h3; omega)
  exact ⟨p, fun _ => rfl, ⟨(fun q h => by cases h), fun q h => (by cases h), (fun f h => by cases h), (aAllc ⟨_, rfl, (rF_b (r := 626) (by decide) rfl).mpr q0⟩ (fun f h => by cases h))⟩, [], List.mem_cons_self, fun f h => (by cases h)⟩
theorem rw_rvPQ1 {K : Nat → Nat} {n : Nat} {JX : (Nat → jcell) → Prop} : aGho (rF K n) fa_T K n JX ag_rvPQ1 := by
  refine aGho_of ⟨rfl, rfl⟩ ?_
  intro p σ ρ hH hX hA hM0
  have hG := aAG_of hA.1 (fun i e v he hv => (hA.2 i e v he hv).1)
  clear hA
  obtain ⟨v0, v1, v2, v3, v4, v5, rfl, g0, g1, g2, g3, g4, g5⟩ := rA_6 hG
  clear hG
  obtain ⟨x0, rfl, b0, d0⟩ := rG_ref (by decide) g0
  obtain ⟨x1, rfl, b1, d1⟩ := aG_int g1
  dsimp only at b1 d1
  obtain ⟨x2, rfl, b2, d2⟩ := aG_int g2
  dsimp only at b2 d2
  obtain ⟨x3, rfl, b3, d3⟩ := aG_int g3
  dsimp only at b3 d3
  obtain ⟨x4, rfl, b4, d4⟩ := aG_int g4
  dsimp only at b4 d4
  obtain ⟨x5, rfl, b5, d5⟩ := aG_int g5
  dsimp only at b5 d5
  obtain ⟨m1, m2, m3, m4⟩ := hM0
  obtain ⟨M, hM⟩ := rMe_ex hH b0 d0
  obtain ⟨a0, c0, fs0, w0, e1, s0, t0, e4⟩ := m1 (0, 3, 5) (List.mem_of_getElem? (i := 0) rfl)
  obtain rfl : x0 = a0 := Sum.inl.inj (Option.some.inj (Sum.inr.inj (Sum.inr.inj (Option.some.inj (show some (rR x0) = some _ from e1)))))
  obtain rfl : rI x5 = w0 := Option.some.inj (show some (rI x5) = some w0 from e4)
  clear e1 e4
  have f0 : rB K n p 22 [rR x0] σ := by
    obtain ⟨w, e6, e7⟩ := m4 (353, [0]) (List.mem_of_getElem? (i := 0) rfl)
    obtain rfl : [rR x0] = w := Option.some.inj (show some [rR x0] = some w from e6)
    exact (rF_b (r := 353) (by decide) rfl).mp e7
  obtain ⟨hp, hR⟩ := ro_22.mp f0
  obtain rfl := rMg_u hM hR.1
  have uS : p.1.2.1 = x5.toInt := rRX_f hR.2.1 s0 t0
  have f1 : rB K n p 120 [rI x1, rI x2, rI x3, rI x4] σ := by
    obtain ⟨w, e6, e7⟩ := m4 (1924, [1, 2, 3, 4]) (List.mem_of_getElem? (i := 1) rfl)
    obtain rfl : [rI x1, rI x2, rI x3, rI x4] = w := Option.some.inj (show some [rI x1, rI x2, rI x3, rI x4] = some w from e6)
    exact (rF_b (r := 1924) (by decide) rfl).mp e7
  have f1 := ro_120.mp f1
  clear m1 m2 m3 m4
  have q0 : rB K n p 46 [rI x1, rI x2, rI x4] σ := ro_46.mpr (by
    rw [f1]
    unfold rUpw
    rw [show x3.toInt = 1 - 2 * p.1.2.1 by omega])
  exact ⟨p, fun _ => rfl, ⟨(fun q h => by cases h), fun q h => (by cases h), (fun f h => by cases h), (aAllc ⟨_, rfl, (rF_b (r := 739) (by decide) rfl).mpr q0⟩ (fun f h => by cases h))⟩, [], List.mem_cons_self, fun f h => (by cases h)⟩
theorem rw_rvTK11 {K : Nat → Nat} {n : Nat} {JX : (Nat → jcell) → Prop} : aGho (rF K n) fa_T K n JX ag_rvTK11 := by
  refine aGho_of ⟨rfl, rfl⟩ ?_
  intro p σ ρ hH hX hA hM0
  have hG := aAG_of hA.1 (fun i e v he hv => (hA.2 i e v he hv).1)
  clear hA
  obtain ⟨v0, v1, v2, v3, v4, rfl, g0, g1, g2, g3, g4⟩ := rA_5 hG
  clear hG
  obtain ⟨x0, rfl, b0, d0⟩ := rG_ref (by decide) g0
  obtain ⟨x1, rfl, b1, d1⟩ := aG_int g1
  dsimp only at b1 d1
  obtain ⟨x2, rfl, b2, d2⟩ := aG_int g2
  dsimp only at b2 d2
  obtain ⟨x3, rfl, b3, d3⟩ := aG_int g3
  dsimp only at b3 d3
  obtain ⟨x4, rfl, b4, d4⟩ := aG_int g4
  dsimp only at b4 d4
  obtain ⟨m1, m2, m3, m4⟩ := hM0
  obtain ⟨M, hM⟩ := rMe_ex hH b0 d0
  obtain ⟨a0, c0, fs0, w0, e1, s0, t0, e4⟩ := m1 (0, 3, 4) (List.mem_of_getElem? (i := 0) rfl)
  obtain rfl : x0 = a0 := Sum.inl.inj (Option.some.inj (Sum.inr.inj (Sum.inr.inj (Option.some.inj (show some (rR x0) = some _ from e1)))))
  obtain rfl : rI x4 = w0 := Option.some.inj (show some (rI x4) = some w0 from e4)
  clear e1 e4
  have f0 : rB K n p 22 [rR x0] σ := by
    obtain ⟨w, e6, e7⟩ := m4 (353, [0]) (List.mem_of_getElem? (i := 0) rfl)
    obtain rfl : [rR x0] = w := Option.some.inj (show some [rR x0] = some w from e6)
    exact (rF_b (r := 353) (by decide) rfl).mp e7
  obtain ⟨hp, hR⟩ := ro_22.mp f0
  obtain rfl := rMg_u hM hR.1
  have uS : p.1.2.1 = x4.toInt := rRX_f hR.2.1 s0 t0
  have f1 : rB K n p 156 [rR x0, rI x1, rI x2, rI x3] σ := by
    obtain ⟨w, e6, e7⟩ := m4 (2500, [0, 1, 2, 3]) (List.mem_of_getElem? (i := 1) rfl)
    obtain rfl : [rR x0, rI x1, rI x2, rI x3] = w := Option.some.inj (show some [rR x0, rI x1, rI x2, rI x3] = some w from e6)
    exact (rF_b (r := 2500) (by decide) rfl).mp e7
  obtain ⟨M9, h9, f1⟩ := ro_156.mp f1
  obtain rfl := rMg_u hM h9
  clear h9
  clear m1 m2 m3 m4
  have q0 : rB K n p 42 [rI x1] σ := ro_42.mpr (by
    unfold rTk
    omega)
  exact ⟨p, fun _ => rfl, ⟨(fun q h => by cases h), fun q h => (by cases h), (fun f h => by cases h), (aAllc ⟨_, rfl, (rF_b (r := 673) (by decide) rfl).mpr q0⟩ (fun f h => by cases h))⟩, [], List.mem_cons_self, fun f h => (by cases h)⟩
theorem rw_rvP3nu1 {K : Nat → Nat} {n : Nat} {JX : (Nat → jcell) → Prop} : aGho (rF K n) fa_T K n JX ag_rvP3nu1 := by
  refine aGho_of ⟨rfl, rfl⟩ ?_
  intro p σ ρ hH hX hA hM0
  have hG := aAG_of hA.1 (fun i e v he hv => (hA.2 i e v he hv).1)
  clear hA
  obtain ⟨v0, v1, v2, v3, v4, v5, v6, v7, v8, rfl, g0, g1, g2, g3, g4, g5, g6, g7, g8⟩ := rA_9 hG
  clear hG
  obtain ⟨x0, rfl, b0, d0⟩ := rG_ref (by decide) g0
  obtain ⟨x1, rfl, b1, d1⟩ := aG_int g1
  dsimp only at b1 d1
  obtain ⟨x2, rfl, b2, d2⟩ := aG_int g2
  dsimp only at b2 d2
  obtain ⟨x3, rfl, b3, d3⟩ := aG_int g3
  dsimp only at b3 d3
  obtain ⟨x4, rfl⟩ := aG_lng g4
  obtain ⟨x5, rfl, b5, d5⟩ := aG_int g5
  dsimp only at b5 d5
  obtain ⟨x6, rfl, b6, d6⟩ := aG_int g6
  dsimp only at b6 d6
  obtain ⟨x7, rfl, b7, d7⟩ := aG_int g7
  dsimp only at b7 d7
  obtain ⟨x8, rfl, b8, d8⟩ := aG_int g8
  dsimp only at b8 d8
  obtain ⟨m1, m2, m3, m4⟩ := hM0
  obtain ⟨M, hM⟩ := rMe_ex hH b0 d0
  obtain ⟨a0, c0, fs0, w0, e1, s0, t0, e4⟩ := m1 (0, 3, 8) (List.mem_of_getElem? (i := 0) rfl)
  obtain rfl : x0 = a0 := Sum.inl.inj (Option.some.inj (Sum.inr.inj (Sum.inr.inj (Option.some.inj (show some (rR x0) = some _ from e1)))))
  obtain rfl : rI x8 = w0 := Option.some.inj (show some (rI x8) = some w0 from e4)
  clear e1 e4
  obtain ⟨a1, c1, fs1, w1, e1, s1, t1, e4⟩ := m1 (0, 5, 7) (List.mem_of_getElem? (i := 1) rfl)
  obtain rfl : x0 = a1 := Sum.inl.inj (Option.some.inj (Sum.inr.inj (Sum.inr.inj (Option.some.inj (show some (rR x0) = some _ from e1)))))
  obtain rfl : rI x7 = w1 := Option.some.inj (show some (rI x7) = some w1 from e4)
  clear e1 e4
  have l0 : 0 ≤ (1 * x3.toInt + (-1 * x7.toInt + 0)) + -1 := by
    obtain ⟨z, e6, e7⟩ := m3 ([(3, 1), (7, -1)], -1) (List.mem_of_getElem? (i := 0) rfl)
    obtain rfl : (1 * x3.toInt + (-1 * x7.toInt + 0)) = z := Option.some.inj (show some (1 * x3.toInt + (-1 * x7.toInt + 0)) = some z from e6)
    exact e7
  have f0 : rB K n p 22 [rR x0] σ := by
    obtain ⟨w, e6, e7⟩ := m4 (353, [0]) (List.mem_of_getElem? (i := 0) rfl)
    obtain rfl : [rR x0] = w := Option.some.inj (show some [rR x0] = some w from e6)
    exact (rF_b (r := 353) (by decide) rfl).mp e7
  obtain ⟨hp, hR⟩ := ro_22.mp f0
  obtain rfl := rMg_u hM hR.1
  have uS : p.1.2.1 = x8.toInt := rRX_f hR.2.1 s0 t0
  have uP : p.1.2.2.2 = x7.toInt := rRX_f hR.2.2.2 s1 t1
  have f1 : rB K n p 40 [rI x1, rI x2, rL x4] σ := by
    obtain ⟨w, e6, e7⟩ := m4 (643, [1, 2, 4]) (List.mem_of_getElem? (i := 1) rfl)
    obtain rfl : [rI x1, rI x2, rL x4] = w := Option.some.inj (show some [rI x1, rI x2, rL x4] = some w from e6)
    exact (rF_b (r := 643) (by decide) rfl).mp e7
  have f1 := ro_40.mp f1
  have f2 : rB K n p 46 [rI x1, rI x2, rI x3] σ := by
    obtain ⟨w, e6, e7⟩ := m4 (739, [1, 2, 3]) (List.mem_of_getElem? (i := 2) rfl)
    obtain rfl : [rI x1, rI x2, rI x3] = w := Option.some.inj (show some [rI x1, rI x2, rI x3] = some w from e6)
    exact (rF_b (r := 739) (by decide) rfl).mp e7
  have f2 := ro_46.mp f2
  have f3 : rB K n p 156 [rR x0, rI x3, rI x5, rI x6] σ := by
    obtain ⟨w, e6, e7⟩ := m4 (2500, [0, 3, 5, 6]) (List.mem_of_getElem? (i := 3) rfl)
    obtain rfl : [rR x0, rI x3, rI x5, rI x6] = w := Option.some.inj (show some [rR x0, rI x3, rI x5, rI x6] = some w from e6)
    exact (rF_b (r := 2500) (by decide) rfl).mp e7
  obtain ⟨M9, h9, f3⟩ := ro_156.mp f3
  obtain rfl := rMg_u hM h9
  clear h9
  clear m1 m2 m3 m4
  have q0 : rB K n p 41 [rI x1, rI x2, rL x4] σ := ro_41.mpr (by
    refine ⟨by omega, fun u h1 h2 => ?_⟩
    rw [f1.2 u h1 h2]
    constructor
    · rintro (h | ⟨f, h3, h4⟩)
      · exact Or.inl h
      · exact Or.inr ⟨f, by omega, h4⟩
    · rintro (h | ⟨f, h3, h4⟩)
      · exact Or.inl h
      · by_cases c : f = x2.toInt
        · obtain ⟨-, h5, h6, h7⟩ := h4
          rw [c, ← f2] at h6
          rw [h6] at h7
          unfold rTk at h7
          omega
        · have h5 := h4.1
          exact Or.inr ⟨f, by omega, h4⟩)
  exact ⟨p, fun _ => rfl, ⟨(fun q h => by cases h), fun q h => (by cases h), (fun f h => by cases h), (aAllc ⟨_, rfl, (rF_b (r := 659) (by decide) rfl).mpr q0⟩ (fun f h => by cases h))⟩, [], List.mem_cons_self, fun f h => (by cases h)⟩
theorem rw_rvP3nd1 {K : Nat → Nat} {n : Nat} {JX : (Nat → jcell) → Prop} : aGho (rF K n) fa_T K n JX ag_rvP3nd1 := by
  refine aGho_of ⟨rfl, rfl⟩ ?_
  intro p σ ρ hH hX hA hM0
  have hG := aAG_of hA.1 (fun i e v he hv => (hA.2 i e v he hv).1)
  clear hA
  obtain ⟨v0, v1, v2, v3, v4, v5, v6, v7, v8, rfl, g0, g1, g2, g3, g4, g5, g6, g7, g8⟩ := rA_9 hG
  clear hG
  obtain ⟨x0, rfl, b0, d0⟩ := rG_ref (by decide) g0
  obtain ⟨x1, rfl, b1, d1⟩ := aG_int g1
  dsimp only at b1 d1
  obtain ⟨x2, rfl, b2, d2⟩ := aG_int g2
  dsimp only at b2 d2
  obtain ⟨x3, rfl, b3, d3⟩ := aG_int g3
  dsimp only at b3 d3
  obtain ⟨x4, rfl⟩ := aG_lng g4
  obtain ⟨x5, rfl, b5, d5⟩ := aG_int g5
  dsimp only at b5 d5
  obtain ⟨x6, rfl, b6, d6⟩ := aG_int g6
  dsimp only at b6 d6
  obtain ⟨x7, rfl, b7, d7⟩ := aG_int g7
  dsimp only at b7 d7
  obtain ⟨x8, rfl, b8, d8⟩ := aG_int g8
  dsimp only at b8 d8
  obtain ⟨m1, m2, m3, m4⟩ := hM0
  obtain ⟨M, hM⟩ := rMe_ex hH b0 d0
  obtain ⟨a0, c0, fs0, w0, e1, s0, t0, e4⟩ := m1 (0, 3, 8) (List.mem_of_getElem? (i := 0) rfl)
  obtain rfl : x0 = a0 := Sum.inl.inj (Option.some.inj (Sum.inr.inj (Sum.inr.inj (Option.some.inj (show some (rR x0) = some _ from e1)))))
  obtain rfl : rI x8 = w0 := Option.some.inj (show some (rI x8) = some w0 from e4)
  clear e1 e4
  obtain ⟨a1, c1, fs1, w1, e1, s1, t1, e4⟩ := m1 (0, 5, 7) (List.mem_of_getElem? (i := 1) rfl)
  obtain rfl : x0 = a1 := Sum.inl.inj (Option.some.inj (Sum.inr.inj (Sum.inr.inj (Option.some.inj (show some (rR x0) = some _ from e1)))))
  obtain rfl : rI x7 = w1 := Option.some.inj (show some (rI x7) = some w1 from e4)
  clear e1 e4
  have l0 : 0 ≤ (-1 * x3.toInt + (1 * x7.toInt + 0)) + -1 := by
    obtain ⟨z, e6, e7⟩ := m3 ([(3, -1), (7, 1)], -1) (List.mem_of_getElem? (i := 0) rfl)
    obtain rfl : (-1 * x3.toInt + (1 * x7.toInt + 0)) = z := Option.some.inj (show some (-1 * x3.toInt + (1 * x7.toInt + 0)) = some z from e6)
    exact e7
  have f0 : rB K n p 22 [rR x0] σ := by
    obtain ⟨w, e6, e7⟩ := m4 (353, [0]) (List.mem_of_getElem? (i := 0) rfl)
    obtain rfl : [rR x0] = w := Option.some.inj (show some [rR x0] = some w from e6)
    exact (rF_b (r := 353) (by decide) rfl).mp e7
  obtain ⟨hp, hR⟩ := ro_22.mp f0
  obtain rfl := rMg_u hM hR.1
  have uS : p.1.2.1 = x8.toInt := rRX_f hR.2.1 s0 t0
  have uP : p.1.2.2.2 = x7.toInt := rRX_f hR.2.2.2 s1 t1
  have f1 : rB K n p 40 [rI x1, rI x2, rL x4] σ := by
    obtain ⟨w, e6, e7⟩ := m4 (643, [1, 2, 4]) (List.mem_of_getElem? (i := 1) rfl)
    obtain rfl : [rI x1, rI x2, rL x4] = w := Option.some.inj (show some [rI x1, rI x2, rL x4] = some w from e6)
    exact (rF_b (r := 643) (by decide) rfl).mp e7
  have f1 := ro_40.mp f1
  have f2 : rB K n p 46 [rI x1, rI x2, rI x3] σ := by
    obtain ⟨w, e6, e7⟩ := m4 (739, [1, 2, 3]) (List.mem_of_getElem? (i := 2) rfl)
    obtain rfl : [rI x1, rI x2, rI x3] = w := Option.some.inj (show some [rI x1, rI x2, rI x3] = some w from e6)
    exact (rF_b (r := 739) (by decide) rfl).mp e7
  have f2 := ro_46.mp f2
  have f3 : rB K n p 156 [rR x0, rI x3, rI x5, rI x6] σ := by
    obtain ⟨w, e6, e7⟩ := m4 (2500, [0, 3, 5, 6]) (List.mem_of_getElem? (i := 3) rfl)
    obtain rfl : [rR x0, rI x3, rI x5, rI x6] = w := Option.some.inj (show some [rR x0, rI x3, rI x5, rI x6] = some w from e6)
    exact (rF_b (r := 2500) (by decide) rfl).mp e7
  obtain ⟨M9, h9, f3⟩ := ro_156.mp f3
  obtain rfl := rMg_u hM h9
  clear h9
  clear m1 m2 m3 m4
  have q0 : rB K n p 41 [rI x1, rI x2, rL x4] σ := ro_41.mpr (by
    refine ⟨by omega, fun u h1 h2 => ?_⟩
    rw [f1.2 u h1 h2]
    constructor
    · rintro (h | ⟨f, h3, h4⟩)
      · exact Or.inl h
      · exact Or.inr ⟨f, by omega, h4⟩
    · rintro (h | ⟨f, h3, h4⟩)
      · exact Or.inl h
      · by_cases c : f = x2.toInt
        · obtain ⟨-, h5, h6, h7⟩ := h4
          rw [c, ← f2] at h6
          rw [h6] at h7
          unfold rTk at h7
          omega
        · have h5 := h4.1
          exact Or.inr ⟨f, by omega, h4⟩)
  exact ⟨p, fun _ => rfl, ⟨(fun q h => by cases h), fun q h => (by cases h), (fun f h => by cases h), (aAllc ⟨_, rfl, (rF_b (r := 659) (by decide) rfl).mpr q0⟩ (fun f h => by cases h))⟩, [], List.mem_cons_self, fun f h => (by cases h)⟩
theorem rw_rvG1 {K : Nat → Nat} {n : Nat} {JX : (Nat → jcell) → Prop} : aGho (rF K n) fa_T K n JX ag_rvG1 := by
  refine aGho_of ⟨rfl, rfl⟩ ?_
  intro p σ ρ hH hX hA hM0
  have hG := aAG_of hA.1 (fun i e v he hv => (hA.2 i e v he hv).1)
  clear hA
  obtain ⟨v0, v1, v2, v3, rfl, g0, g1, g2, g3⟩ := rA_4 hG
  clear hG
  obtain ⟨x0, rfl, b0, d0⟩ := rG_ref (by decide) g0
  obtain ⟨x1, rfl, b1, d1⟩ := aG_int g1
  dsimp only at b1 d1
  obtain ⟨x2, rfl, b2, d2⟩ := aG_int g2
  dsimp only at b2 d2
  obtain ⟨x3, rfl⟩ := aG_lng g3
  obtain ⟨m1, m2, m3, m4⟩ := hM0
  obtain ⟨M, hM⟩ := rMe_ex hH b0 d0
  have f0 : rB K n p 22 [rR x0] σ := by
    obtain ⟨w, e6, e7⟩ := m4 (353, [0]) (List.mem_of_getElem? (i := 0) rfl)
    obtain rfl : [rR x0] = w := Option.some.inj (show some [rR x0] = some w from e6)
    exact (rF_b (r := 353) (by decide) rfl).mp e7
  obtain ⟨hp, hR⟩ := ro_22.mp f0
  obtain rfl := rMg_u hM hR.1
  have f1 : rB K n p 148 [rR x0, rI x1, rI x2] σ := by
    obtain ⟨w, e6, e7⟩ := m4 (2371, [0, 1, 2]) (List.mem_of_getElem? (i := 1) rfl)
    obtain rfl : [rR x0, rI x1, rI x2] = w := Option.some.inj (show some [rR x0, rI x1, rI x2] = some w from e6)
    exact (rF_b (r := 2371) (by decide) rfl).mp e7
  obtain ⟨M9, h9, f1⟩ := ro_148.mp f1
  obtain rfl := rMg_u hM h9
  clear h9
  have f2 : rB K n p 43 [rI x1, rL x3] σ := by
    obtain ⟨w, e6, e7⟩ := m4 (690, [1, 3]) (List.mem_of_getElem? (i := 2) rfl)
    obtain rfl : [rI x1, rL x3] = w := Option.some.inj (show some [rI x1, rL x3] = some w from e6)
    exact (rF_b (r := 690) (by decide) rfl).mp e7
  have f2 := ro_43.mp f2
  clear m1 m2 m3 m4
  have q0 : rB K n p 30 [rI x1, rL x3] σ := ro_30.mpr (by
    intro u h1 h2
    rw [f2 u h1 h2]
    unfold rGO
    exact ⟨fun h => Or.inl ⟨by omega, h⟩, fun h => h.elim And.right (fun h => absurd (by omega) h.1)⟩)
  exact ⟨p, fun _ => rfl, ⟨(fun q h => by cases h), fun q h => (by cases h), (fun f h => by cases h), (aAllc ⟨_, rfl, (rF_b (r := 482) (by decide) rfl).mpr q0⟩ (fun f h => by cases h))⟩, [], List.mem_cons_self, fun f h => (by cases h)⟩
theorem rw_rvNP0 {K : Nat → Nat} {n : Nat} {JX : (Nat → jcell) → Prop} : aGho (rF K n) fa_T K n JX ag_rvNP0 := by
  refine aGho_of ⟨rfl, rfl⟩ ?_
  intro p σ ρ hH hX hA hM0
  have hG := aAG_of hA.1 (fun i e v he hv => (hA.2 i e v he hv).1)
  clear hA
  obtain ⟨v0, v1, v2, rfl, g0, g1, g2⟩ := rA_3 hG
  clear hG
  obtain ⟨x0, rfl, b0, d0⟩ := rG_ref (by decide) g0
  obtain ⟨x1, rfl, b1, d1⟩ := aG_int g1
  dsimp only at b1 d1
  obtain ⟨x2, rfl, b2, d2⟩ := aG_int g2
  dsimp only at b2 d2
  obtain ⟨m1, m2, m3, m4⟩ := hM0
  obtain ⟨M, hM⟩ := rMe_ex hH b0 d0
  have f0 : rB K n p 22 [rR x0] σ := by
    obtain ⟨w, e6, e7⟩ := m4 (353, [0]) (List.mem_of_getElem? (i := 0) rfl)
    obtain rfl : [rR x0] = w := Option.some.inj (show some [rR x0] = some w from e6)
    exact (rF_b (r := 353) (by decide) rfl).mp e7
  obtain ⟨hp, hR⟩ := ro_22.mp f0
  obtain rfl := rMg_u hM hR.1
  have f1 : rB K n p 148 [rR x0, rI x1, rI x2] σ := by
    obtain ⟨w, e6, e7⟩ := m4 (2371, [0, 1, 2]) (List.mem_of_getElem? (i := 1) rfl)
    obtain rfl : [rR x0, rI x1, rI x2] = w := Option.some.inj (show some [rR x0, rI x1, rI x2] = some w from e6)
    exact (rF_b (r := 2371) (by decide) rfl).mp e7
  obtain ⟨M9, h9, f1⟩ := ro_148.mp f1
  obtain rfl := rMg_u hM h9
  clear h9
  clear m1 m2 m3 m4
  have q0 : rB K n p 47 [rI x1] σ := ro_47.mpr (by
    omega)
  exact ⟨p, fun _ => rfl, ⟨(fun q h => by cases h), fun q h => (by cases h), (fun f h => by cases h), (aAllc ⟨_, rfl, (rF_b (r := 753) (by decide) rfl).mpr q0⟩ (fun f h => by cases h))⟩, [], List.mem_cons_self, fun f h => (by cases h)⟩
theorem rw_rvNP1 {K : Nat → Nat} {n : Nat} {JX : (Nat → jcell) → Prop} : aGho (rF K n) fa_T K n JX ag_rvNP1 := by
  refine aGho_of ⟨rfl, rfl⟩ ?_
  intro p σ ρ hH hX hA hM0
  have hG := aAG_of hA.1 (fun i e v he hv => (hA.2 i e v he hv).1)
  clear hA
  obtain ⟨v0, v1, v2, rfl, g0, g1, g2⟩ := rA_3 hG
  clear hG
  obtain ⟨x0, rfl, b0, d0⟩ := rG_ref (by decide) g0
  obtain ⟨x1, rfl, b1, d1⟩ := aG_int g1
  dsimp only at b1 d1
  obtain ⟨x2, rfl, b2, d2⟩ := aG_int g2
  dsimp only at b2 d2
  obtain ⟨m1, m2, m3, m4⟩ := hM0
  obtain ⟨M, hM⟩ := rMe_ex hH b0 d0
  have f0 : rB K n p 22 [rR x0] σ := by
    obtain ⟨w, e6, e7⟩ := m4 (353, [0]) (List.mem_of_getElem? (i := 0) rfl)
    obtain rfl : [rR x0] = w := Option.some.inj (show some [rR x0] = some w from e6)
    exact (rF_b (r := 353) (by decide) rfl).mp e7
  obtain ⟨hp, hR⟩ := ro_22.mp f0
  obtain rfl := rMg_u hM hR.1
  have f1 : rB K n p 148 [rR x0, rI x1, rI x2] σ := by
    obtain ⟨w, e6, e7⟩ := m4 (2371, [0, 1, 2]) (List.mem_of_getElem? (i := 1) rfl)
    obtain rfl : [rR x0, rI x1, rI x2] = w := Option.some.inj (show some [rR x0, rI x1, rI x2] = some w from e6)
    exact (rF_b (r := 2371) (by decide) rfl).mp e7
  obtain ⟨M9, h9, f1⟩ := ro_148.mp f1
  obtain rfl := rMg_u hM h9
  clear h9
  clear m1 m2 m3 m4
  have q0 : rB K n p 47 [rI x1] σ := ro_47.mpr (by
    omega)
  exact ⟨p, fun _ => rfl, ⟨(fun q h => by cases h), fun q h => (by cases h), (fun f h => by cases h), (aAllc ⟨_, rfl, (rF_b (r := 753) (by decide) rfl).mpr q0⟩ (fun f h => by cases h))⟩, [], List.mem_cons_self, fun f h => (by cases h)⟩
theorem rw_rvG20 {K : Nat → Nat} {n : Nat} {JX : (Nat → jcell) → Prop} : aGho (rF K n) fa_T K n JX ag_rvG20 := by
  refine aGho_of ⟨rfl, rfl⟩ ?_
  intro p σ ρ hH hX hA hM0
  have hG := aAG_of hA.1 (fun i e v he hv => (hA.2 i e v he hv).1)
  clear hA
  obtain ⟨v0, v1, v2, v3, rfl, g0, g1, g2, g3⟩ := rA_4 hG
  clear hG
  obtain ⟨x0, rfl, b0, d0⟩ := rG_ref (by decide) g0
  obtain ⟨x1, rfl, b1, d1⟩ := aG_int g1
  dsimp only at b1 d1
  obtain ⟨x2, rfl, b2, d2⟩ := aG_int g2
  dsimp only at b2 d2
  obtain ⟨x3, rfl⟩ := aG_lng g3
  obtain ⟨m1, m2, m3, m4⟩ := hM0
  obtain ⟨M, hM⟩ := rMe_ex hH b0 d0
  have f0 : rB K n p 22 [rR x0] σ := by
    obtain ⟨w, e6, e7⟩ := m4 (353, [0]) (List.mem_of_getElem? (i := 0) rfl)
    obtain rfl : [rR x0] = w := Option.some.inj (show some [rR x0] = some w from e6)
    exact (rF_b (r := 353) (by decide) rfl).mp e7
  obtain ⟨hp, hR⟩ := ro_22.mp f0
  obtain rfl := rMg_u hM hR.1
  have f1 : rB K n p 47 [rI x1] σ := by
    obtain ⟨w, e6, e7⟩ := m4 (753, [1]) (List.mem_of_getElem? (i := 1) rfl)
    obtain rfl : [rI x1] = w := Option.some.inj (show some [rI x1] = some w from e6)
    exact (rF_b (r := 753) (by decide) rfl).mp e7
  have f1 := ro_47.mp f1
  have f2 : rB K n p 148 [rR x0, rI x1, rI x2] σ := by
    obtain ⟨w, e6, e7⟩ := m4 (2371, [0, 1, 2]) (List.mem_of_getElem? (i := 2) rfl)
    obtain rfl : [rR x0, rI x1, rI x2] = w := Option.some.inj (show some [rR x0, rI x1, rI x2] = some w from e6)
    exact (rF_b (r := 2371) (by decide) rfl).mp e7
  obtain ⟨M9, h9, f2⟩ := ro_148.mp f2
  obtain rfl := rMg_u hM h9
  clear h9
  have f3 : rB K n p 153 [rR x0, rI x1, rL x3] σ := by
    obtain ⟨w, e6, e7⟩ := m4 (2451, [0, 1, 3]) (List.mem_of_getElem? (i := 3) rfl)
    obtain rfl : [rR x0, rI x1, rL x3] = w := Option.some.inj (show some [rR x0, rI x1, rL x3] = some w from e6)
    exact (rF_b (r := 2451) (by decide) rfl).mp e7
  obtain ⟨M9, h9, f3⟩ := ro_153.mp f3
  obtain rfl := rMg_u hM h9
  clear h9
  clear m1 m2 m3 m4
  have q0 : rB K n p 30 [rI x1, rL x3] σ := ro_30.mpr (by
    intro u h1 h2
    rw [f3 u h1 h2]
    unfold rGO
    constructor
    · intro h
      exact Or.inr ⟨by omega, Or.inl h⟩
    · rintro (⟨h, -⟩ | ⟨-, h | ⟨h, h3, -⟩⟩)
      · omega
      · exact h
      · omega)
  exact ⟨p, fun _ => rfl, ⟨(fun q h => by cases h), fun q h => (by cases h), (fun f h => by cases h), (aAllc ⟨_, rfl, (rF_b (r := 482) (by decide) rfl).mpr q0⟩ (fun f h => by cases h))⟩, [], List.mem_cons_self, fun f h => (by cases h)⟩
theorem rw_rvG21 {K : Nat → Nat} {n : Nat} {JX : (Nat → jcell) → Prop} : aGho (rF K n) fa_T K n JX ag_rvG21 := by
  refine aGho_of ⟨rfl, rfl⟩ ?_
  intro p σ ρ hH hX hA hM0
  have hG := aAG_of hA.1 (fun i e v he hv => (hA.2 i e v he hv).1)
  clear hA
  obtain ⟨v0, v1, v2, v3, rfl, g0, g1, g2, g3⟩ := rA_4 hG
  clear hG
  obtain ⟨x0, rfl, b0, d0⟩ := rG_ref (by decide) g0
  obtain ⟨x1, rfl, b1, d1⟩ := aG_int g1
  dsimp only at b1 d1
  obtain ⟨x2, rfl, b2, d2⟩ := aG_int g2
  dsimp only at b2 d2
  obtain ⟨x3, rfl⟩ := aG_lng g3
  obtain ⟨m1, m2, m3, m4⟩ := hM0
  obtain ⟨M, hM⟩ := rMe_ex hH b0 d0
  have f0 : rB K n p 22 [rR x0] σ := by
    obtain ⟨w, e6, e7⟩ := m4 (353, [0]) (List.mem_of_getElem? (i := 0) rfl)
    obtain rfl : [rR x0] = w := Option.some.inj (show some [rR x0] = some w from e6)
    exact (rF_b (r := 353) (by decide) rfl).mp e7
  obtain ⟨hp, hR⟩ := ro_22.mp f0
  obtain rfl := rMg_u hM hR.1
  have f1 : rB K n p 47 [rI x1] σ := by
    obtain ⟨w, e6, e7⟩ := m4 (753, [1]) (List.mem_of_getElem? (i := 1) rfl)
    obtain rfl : [rI x1] = w := Option.some.inj (show some [rI x1] = some w from e6)
    exact (rF_b (r := 753) (by decide) rfl).mp e7
  have f1 := ro_47.mp f1
  have f2 : rB K n p 148 [rR x0, rI x1, rI x2] σ := by
    obtain ⟨w, e6, e7⟩ := m4 (2371, [0, 1, 2]) (List.mem_of_getElem? (i := 2) rfl)
    obtain rfl : [rR x0, rI x1, rI x2] = w := Option.some.inj (show some [rR x0, rI x1, rI x2] = some w from e6)
    exact (rF_b (r := 2371) (by decide) rfl).mp e7
  obtain ⟨M9, h9, f2⟩ := ro_148.mp f2
  obtain rfl := rMg_u hM h9
  clear h9
  have f3 : rB K n p 153 [rR x0, rI x1, rL x3] σ := by
    obtain ⟨w, e6, e7⟩ := m4 (2451, [0, 1, 3]) (List.mem_of_getElem? (i := 3) rfl)
    obtain rfl : [rR x0, rI x1, rL x3] = w := Option.some.inj (show some [rR x0, rI x1, rL x3] = some w from e6)
    exact (rF_b (r := 2451) (by decide) rfl).mp e7
  obtain ⟨M9, h9, f3⟩ := ro_153.mp f3
  obtain rfl := rMg_u hM h9
  clear h9
  clear m1 m2 m3 m4
  have q0 : rB K n p 30 [rI x1, rL x3] σ := ro_30.mpr (by
    intro u h1 h2
    rw [f3 u h1 h2]
    unfold rGO
    constructor
    · intro h
      exact Or.inr ⟨by omega, Or.inl h⟩
    · rintro (⟨h, -⟩ | ⟨-, h | ⟨h, h3, -⟩⟩)
      · omega
      · exact h
      · omega)
  exact ⟨p, fun _ => rfl, ⟨(fun q h => by cases h), fun q h => (by cases h), (fun f h => by cases h), (aAllc ⟨_, rfl, (rF_b (r := 482) (by decide) rfl).mpr q0⟩ (fun f h => by cases h))⟩, [], List.mem_cons_self, fun f h => (by cases h)⟩
theorem rw_rvG300 {K : Nat → Nat} {n : Nat} {JX : (Nat → jcell) → Prop} : aGho (rF K n) fa_T K n JX ag_rvG300 := by
  refine aGho_of ⟨rfl, rfl⟩ ?_
  intro p σ ρ hH hX hA hM0
  have hG := aAG_of hA.1 (fun i e v he hv => (hA.2 i e v he hv).1)
  clear hA
  obtain ⟨v0, v1, v2, v3, v4, rfl, g0, g1, g2, g3, g4⟩ := rA_5 hG
  clear hG
  obtain ⟨x0, rfl, b0, d0⟩ := rG_ref (by decide) g0
  obtain ⟨x1, rfl, b1, d1⟩ := aG_int g1
  dsimp only at b1 d1
  obtain ⟨x2, rfl, b2, d2⟩ := aG_int g2
  dsimp only at b2 d2
  obtain ⟨x3, rfl⟩ := aG_lng g3
  obtain ⟨x4, rfl, b4, d4⟩ := aG_int g4
  dsimp only at b4 d4
  obtain ⟨m1, m2, m3, m4⟩ := hM0
  obtain ⟨M, hM⟩ := rMe_ex hH b0 d0
  obtain ⟨a0, c0, fs0, w0, e1, s0, t0, e4⟩ := m1 (0, 3, 4) (List.mem_of_getElem? (i := 0) rfl)
  obtain rfl : x0 = a0 := Sum.inl.inj (Option.some.inj (Sum.inr.inj (Sum.inr.inj (Option.some.inj (show some (rR x0) = some _ from e1)))))
  obtain rfl : rI x4 = w0 := Option.some.inj (show some (rI x4) = some w0 from e4)
  clear e1 e4
  have f0 : rB K n p 22 [rR x0] σ := by
    obtain ⟨w, e6, e7⟩ := m4 (353, [0]) (List.mem_of_getElem? (i := 0) rfl)
    obtain rfl : [rR x0] = w := Option.some.inj (show some [rR x0] = some w from e6)
    exact (rF_b (r := 353) (by decide) rfl).mp e7
  obtain ⟨hp, hR⟩ := ro_22.mp f0
  obtain rfl := rMg_u hM hR.1
  have uS : p.1.2.1 = x4.toInt := rRX_f hR.2.1 s0 t0
  have f1 : rB K n p 148 [rR x0, rI x1, rI x2] σ := by
    obtain ⟨w, e6, e7⟩ := m4 (2371, [0, 1, 2]) (List.mem_of_getElem? (i := 1) rfl)
    obtain rfl : [rR x0, rI x1, rI x2] = w := Option.some.inj (show some [rR x0, rI x1, rI x2] = some w from e6)
    exact (rF_b (r := 2371) (by decide) rfl).mp e7
  obtain ⟨M9, h9, f1⟩ := ro_148.mp f1
  obtain rfl := rMg_u hM h9
  clear h9
  have f2 : rB K n p 153 [rR x0, rI x1, rL x3] σ := by
    obtain ⟨w, e6, e7⟩ := m4 (2451, [0, 1, 3]) (List.mem_of_getElem? (i := 2) rfl)
    obtain rfl : [rR x0, rI x1, rL x3] = w := Option.some.inj (show some [rR x0, rI x1, rL x3] = some w from e6)
    exact (rF_b (r := 2451) (by decide) rfl).mp e7
  obtain ⟨M9, h9, f2⟩ := ro_153.mp f2
  obtain rfl := rMg_u hM h9
  clear h9
  clear m1 m2 m3 m4
  have q0 : rB K n p 30 [rI x1, rL x3] σ := ro_30.mpr (by
    intro u h1 h2
    rw [f2 u h1 h2]
    unfold rGO
    constructor
    · intro h
      exact Or.inr ⟨by omega, Or.inl h⟩
    · rintro (⟨h, -⟩ | ⟨-, h | ⟨h, h3, -⟩⟩)
      · omega
      · exact h
      · omega)
  exact ⟨p, fun _ => rfl, ⟨(fun q h => by cases h), fun q h => (by cases h), (fun f h => by cases h), (aAllc ⟨_, rfl, (rF_b (r := 482) (by decide) rfl).mpr q0⟩ (fun f h => by cases h))⟩, [], List.mem_cons_self, fun f h => (by cases h)⟩
theorem rw_rvG310 {K : Nat → Nat} {n : Nat} {JX : (Nat → jcell) → Prop} : aGho (rF K n) fa_T K n JX ag_rvG310 := by
  refine aGho_of ⟨rfl, rfl⟩ ?_
  intro p σ ρ hH hX hA hM0
  have hG := aAG_of hA.1 (fun i e v he hv => (hA.2 i e v he hv).1)
  clear hA
  obtain ⟨v0, v1, v2, v3, v4, rfl, g0, g1, g2, g3, g4⟩ := rA_5 hG
  clear hG
  obtain ⟨x0, rfl, b0, d0⟩ := rG_ref (by decide) g0
  obtain ⟨x1, rfl, b1, d1⟩ := aG_int g1
  dsimp only at b1 d1
  obtain ⟨x2, rfl, b2, d2⟩ := aG_int g2
  dsimp only at b2 d2
  obtain ⟨x3, rfl⟩ := aG_lng g3
  obtain ⟨x4, rfl, b4, d4⟩ := aG_int g4
  dsimp only at b4 d4
  obtain ⟨m1, m2, m3, m4⟩ := hM0
  obtain ⟨M, hM⟩ := rMe_ex hH b0 d0
  obtain ⟨a0, c0, fs0, w0, e1, s0, t0, e4⟩ := m1 (0, 3, 4) (List.mem_of_getElem? (i := 0) rfl)
  obtain rfl : x0 = a0 := Sum.inl.inj (Option.some.inj (Sum.inr.inj (Sum.inr.inj (Option.some.inj (show some (rR x0) = some _ from e1)))))
  obtain rfl : rI x4 = w0 := Option.some.inj (show some (rI x4) = some w0 from e4)
  clear e1 e4
  have f0 : rB K n p 22 [rR x0] σ := by
    obtain ⟨w, e6, e7⟩ := m4 (353, [0]) (List.mem_of_getElem? (i := 0) rfl)
    obtain rfl : [rR x0] = w := Option.some.inj (show some [rR x0] = some w from e6)
    exact (rF_b (r := 353) (by decide) rfl).mp e7
  obtain ⟨hp, hR⟩ := ro_22.mp f0
  obtain rfl := rMg_u hM hR.1
  have uS : p.1.2.1 = x4.toInt := rRX_f hR.2.1 s0 t0
  have f1 : rB K n p 148 [rR x0, rI x1, rI x2] σ := by
    obtain ⟨w, e6, e7⟩ := m4 (2371, [0, 1, 2]) (List.mem_of_getElem? (i := 1) rfl)
    obtain rfl : [rR x0, rI x1, rI x2] = w := Option.some.inj (show some [rR x0, rI x1, rI x2] = some w from e6)
    exact (rF_b (r := 2371) (by decide) rfl).mp e7
  obtain ⟨M9, h9, f1⟩ := ro_148.mp f1
  obtain rfl := rMg_u hM h9
  clear h9
  have f2 : rB K n p 153 [rR x0, rI x1, rL x3] σ := by
    obtain ⟨w, e6, e7⟩ := m4 (2451, [0, 1, 3]) (List.mem_of_getElem? (i := 2) rfl)
    obtain rfl : [rR x0, rI x1, rL x3] = w := Option.some.inj (show some [rR x0, rI x1, rL x3] = some w from e6)
    exact (rF_b (r := 2451) (by decide) rfl).mp e7
  obtain ⟨M9, h9, f2⟩ := ro_153.mp f2
  obtain rfl := rMg_u hM h9
  clear h9
  clear m1 m2 m3 m4
  have q0 : rB K n p 30 [rI x1, rL x3] σ := ro_30.mpr (by
    intro u h1 h2
    rw [f2 u h1 h2]
    unfold rGO
    constructor
    · intro h
      exact Or.inr ⟨by omega, Or.inl h⟩
    · rintro (⟨h, -⟩ | ⟨-, h | ⟨h, h3, -⟩⟩)
      · omega
      · exact h
      · omega)
  exact ⟨p, fun _ => rfl, ⟨(fun q h => by cases h), fun q h => (by cases h), (fun f h => by cases h), (aAllc ⟨_, rfl, (rF_b (r := 482) (by decide) rfl).mpr q0⟩ (fun f h => by cases h))⟩, [], List.mem_cons_self, fun f h => (by cases h)⟩
theorem rw_rvGs10 {K : Nat → Nat} {n : Nat} {JX : (Nat → jcell) → Prop} : aGho (rF K n) fa_T K n JX ag_rvGs10 := by
  refine aGho_of ⟨rfl, rfl⟩ ?_
  intro p σ ρ hH hX hA hM0
  have hG := aAG_of hA.1 (fun i e v he hv => (hA.2 i e v he hv).1)
  clear hA
  obtain ⟨v0, v1, v2, v3, v4, v5, v6, v7, v8, v9, rfl, g0, g1, g2, g3, g4, g5, g6, g7, g8, g9⟩ := rA_10 hG
  clear hG
  obtain ⟨x0, rfl, b0, d0⟩ := rG_ref (by decide) g0
  obtain ⟨x1, rfl, b1, d1⟩ := aG_int g1
  dsimp only at b1 d1
  obtain ⟨x2, rfl, b2, d2⟩ := aG_int g2
  dsimp only at b2 d2
  obtain ⟨x3, rfl, b3, d3⟩ := aG_int g3
  dsimp only at b3 d3
  obtain ⟨x4, rfl, b4, d4⟩ := aG_int g4
  dsimp only at b4 d4
  obtain ⟨x5, rfl, b5, d5⟩ := aG_int g5
  dsimp only at b5 d5
  obtain ⟨x6, rfl⟩ := aG_lng g6
  obtain ⟨x7, rfl⟩ := aG_lng g7
  obtain ⟨x8, rfl⟩ := aG_lng g8
  obtain ⟨x9, rfl, b9, d9⟩ := aG_int g9
  dsimp only at b9 d9
  obtain ⟨m1, m2, m3, m4⟩ := hM0
  obtain ⟨M, hM⟩ := rMe_ex hH b0 d0
  obtain ⟨a0, c0, fs0, w0, e1, s0, t0, e4⟩ := m1 (0, 3, 9) (List.mem_of_getElem? (i := 0) rfl)
  obtain rfl : x0 = a0 := Sum.inl.inj (Option.some.inj (Sum.inr.inj (Sum.inr.inj (Option.some.inj (show some (rR x0) = some _ from e1)))))
  obtain rfl : rI x9 = w0 := Option.some.inj (show some (rI x9) = some w0 from e4)
  clear e1 e4
  have f0 : rB K n p 22 [rR x0] σ := by
    obtain ⟨w, e6, e7⟩ := m4 (353, [0]) (List.mem_of_getElem? (i := 0) rfl)
    obtain rfl : [rR x0] = w := Option.some.inj (show some [rR x0] = some w from e6)
    exact (rF_b (r := 353) (by decide) rfl).mp e7
  obtain ⟨hp, hR⟩ := ro_22.mp f0
  obtain rfl := rMg_u hM hR.1
  have uS : p.1.2.1 = x9.toInt := rRX_f hR.2.1 s0 t0
  have f1 : rB K n p 148 [rR x0, rI x1, rI x2] σ := by
    obtain ⟨w, e6, e7⟩ := m4 (2371, [0, 1, 2]) (List.mem_of_getElem? (i := 1) rfl)
    obtain rfl : [rR x0, rI x1, rI x2] = w := Option.some.inj (show some [rR x0, rI x1, rI x2] = some w from e6)
    exact (rF_b (r := 2371) (by decide) rfl).mp e7
  obtain ⟨M9, h9, f1⟩ := ro_148.mp f1
  obtain rfl := rMg_u hM h9
  clear h9
  have f2 : rB K n p 153 [rR x0, rI x1, rL x6] σ := by
    obtain ⟨w, e6, e7⟩ := m4 (2451, [0, 1, 6]) (List.mem_of_getElem? (i := 2) rfl)
    obtain rfl : [rR x0, rI x1, rL x6] = w := Option.some.inj (show some [rR x0, rI x1, rL x6] = some w from e6)
    exact (rF_b (r := 2451) (by decide) rfl).mp e7
  obtain ⟨M9, h9, f2⟩ := ro_153.mp f2
  obtain rfl := rMg_u hM h9
  clear h9
  have f3 : rB K n p 32 [rI x3, rI x4] σ := by
    obtain ⟨w, e6, e7⟩ := m4 (514, [3, 4]) (List.mem_of_getElem? (i := 3) rfl)
    obtain rfl : [rI x3, rI x4] = w := Option.some.inj (show some [rI x3, rI x4] = some w from e6)
    exact (rF_b (r := 514) (by decide) rfl).mp e7
  have f3 := ro_32.mp f3
  have f4 : rB K n p 141 [rI x5, rL x7] σ := by
    obtain ⟨w, e6, e7⟩ := m4 (2258, [5, 7]) (List.mem_of_getElem? (i := 4) rfl)
    obtain rfl : [rI x5, rL x7] = w := Option.some.inj (show some [rI x5, rL x7] = some w from e6)
    exact (rF_b (r := 2258) (by decide) rfl).mp e7
  have f4 := ro_141.mp f4
  have f5 : rB K n p 100 [rL x6, rL x7, rL x8] σ := by
    obtain ⟨w, e6, e7⟩ := m4 (1603, [6, 7, 8]) (List.mem_of_getElem? (i := 5) rfl)
    obtain rfl : [rL x6, rL x7, rL x8] = w := Option.some.inj (show some [rL x6, rL x7, rL x8] = some w from e6)
    exact (rF_b (r := 1603) (by decide) rfl).mp e7
  have f5 : x8 = x6 ||| x7 := Sum.inl.inj (Sum.inr.inj (ro_100.mp f5))
  clear m1 m2 m3 m4
  have q0 : rB K n p 34 [rI x1, rL x8] σ := ro_34.mpr (by
    have hc : rCa p.1 1 := by
      rcases f3 with h5 | h5
      · rw [show x3.toInt = 1 by omega] at h5; exact h5.2
      · have := h5.1; omega
    refine ⟨by omega, fun u h1 h2 => ?_⟩
    rw [f5, rBt_or, f2 u h1 h2, f4 u h1 h2]
    constructor
    · rintro (h | h)
      · exact Or.inl h
      · exact Or.inr ⟨hc, by omega⟩
    · rintro (h | ⟨-, h⟩)
      · exact Or.inl h
      · exact Or.inr (by omega))
  exact ⟨p, fun _ => rfl, ⟨(fun q h => by cases h), fun q h => (by cases h), (fun f h => by cases h), (aAllc ⟨_, rfl, (rF_b (r := 546) (by decide) rfl).mpr q0⟩ (fun f h => by cases h))⟩, [], List.mem_cons_self, fun f h => (by cases h)⟩
theorem rw_rvGs00 {K : Nat → Nat} {n : Nat} {JX : (Nat → jcell) → Prop} : aGho (rF K n) fa_T K n JX ag_rvGs00 := by
  refine aGho_of ⟨rfl, rfl⟩ ?_
  intro p σ ρ hH hX hA hM0
  have hG := aAG_of hA.1 (fun i e v he hv => (hA.2 i e v he hv).1)
  clear hA
  obtain ⟨v0, v1, v2, v3, v4, v5, v6, v7, v8, rfl, g0, g1, g2, g3, g4, g5, g6, g7, g8⟩ := rA_9 hG
  clear hG
  obtain ⟨x0, rfl, b0, d0⟩ := rG_ref (by decide) g0
  obtain ⟨x1, rfl, b1, d1⟩ := aG_int g1
  dsimp only at b1 d1
  obtain ⟨x2, rfl, b2, d2⟩ := aG_int g2
  dsimp only at b2 d2
  obtain ⟨x3, rfl, b3, d3⟩ := aG_int g3
  dsimp only at b3 d3
  obtain ⟨x4, rfl, b4, d4⟩ := aG_int g4
  dsimp only at b4 d4
  obtain ⟨x5, rfl⟩ := aG_lng g5
  obtain ⟨x6, rfl⟩ := aG_lng g6
  obtain ⟨x7, rfl⟩ := aG_lng g7
  obtain ⟨x8, rfl, b8, d8⟩ := aG_int g8
  dsimp only at b8 d8
  obtain ⟨m1, m2, m3, m4⟩ := hM0
  obtain ⟨M, hM⟩ := rMe_ex hH b0 d0
  obtain ⟨a0, c0, fs0, w0, e1, s0, t0, e4⟩ := m1 (0, 3, 8) (List.mem_of_getElem? (i := 0) rfl)
  obtain rfl : x0 = a0 := Sum.inl.inj (Option.some.inj (Sum.inr.inj (Sum.inr.inj (Option.some.inj (show some (rR x0) = some _ from e1)))))
  obtain rfl : rI x8 = w0 := Option.some.inj (show some (rI x8) = some w0 from e4)
  clear e1 e4
  have l0 : 0 ≤ (1 * x6.toInt + 0) + 0 := by
    obtain ⟨z, e6, e7⟩ := m3 ([(6, 1)], 0) (List.mem_of_getElem? (i := 0) rfl)
    obtain rfl : (1 * x6.toInt + 0) = z := Option.some.inj (show some (1 * x6.toInt + 0) = some z from e6)
    exact e7
  have l1 : 0 ≤ (-1 * x6.toInt + 0) + 0 := by
    obtain ⟨z, e6, e7⟩ := m3 ([(6, -1)], 0) (List.mem_of_getElem? (i := 1) rfl)
    obtain rfl : (-1 * x6.toInt + 0) = z := Option.some.inj (show some (-1 * x6.toInt + 0) = some z from e6)
    exact e7
  have f0 : rB K n p 22 [rR x0] σ := by
    obtain ⟨w, e6, e7⟩ := m4 (353, [0]) (List.mem_of_getElem? (i := 0) rfl)
    obtain rfl : [rR x0] = w := Option.some.inj (show some [rR x0] = some w from e6)
    exact (rF_b (r := 353) (by decide) rfl).mp e7
  obtain ⟨hp, hR⟩ := ro_22.mp f0
  obtain rfl := rMg_u hM hR.1
  have uS : p.1.2.1 = x8.toInt := rRX_f hR.2.1 s0 t0
  have f1 : rB K n p 148 [rR x0, rI x1, rI x2] σ := by
    obtain ⟨w, e6, e7⟩ := m4 (2371, [0, 1, 2]) (List.mem_of_getElem? (i := 1) rfl)
    obtain rfl : [rR x0, rI x1, rI x2] = w := Option.some.inj (show some [rR x0, rI x1, rI x2] = some w from e6)
    exact (rF_b (r := 2371) (by decide) rfl).mp e7
  obtain ⟨M9, h9, f1⟩ := ro_148.mp f1
  obtain rfl := rMg_u hM h9
  clear h9
  have f2 : rB K n p 153 [rR x0, rI x1, rL x5] σ := by
    obtain ⟨w, e6, e7⟩ := m4 (2451, [0, 1, 5]) (List.mem_of_getElem? (i := 2) rfl)
    obtain rfl : [rR x0, rI x1, rL x5] = w := Option.some.inj (show some [rR x0, rI x1, rL x5] = some w from e6)
    exact (rF_b (r := 2451) (by decide) rfl).mp e7
  obtain ⟨M9, h9, f2⟩ := ro_153.mp f2
  obtain rfl := rMg_u hM h9
  clear h9
  have f3 : rB K n p 32 [rI x3, rI x4] σ := by
    obtain ⟨w, e6, e7⟩ := m4 (514, [3, 4]) (List.mem_of_getElem? (i := 3) rfl)
    obtain rfl : [rI x3, rI x4] = w := Option.some.inj (show some [rI x3, rI x4] = some w from e6)
    exact (rF_b (r := 514) (by decide) rfl).mp e7
  have f3 := ro_32.mp f3
  have f4 : rB K n p 100 [rL x5, rL x6, rL x7] σ := by
    obtain ⟨w, e6, e7⟩ := m4 (1603, [5, 6, 7]) (List.mem_of_getElem? (i := 4) rfl)
    obtain rfl : [rL x5, rL x6, rL x7] = w := Option.some.inj (show some [rL x5, rL x6, rL x7] = some w from e6)
    exact (rF_b (r := 1603) (by decide) rfl).mp e7
  have f4 : x7 = x5 ||| x6 := Sum.inl.inj (Sum.inr.inj (ro_100.mp f4))
  clear m1 m2 m3 m4
  have q0 : rB K n p 34 [rI x1, rL x7] σ := ro_34.mpr (by
    have hc : ¬ rCa p.1 1 := by
      rcases f3 with h5 | h5
      · have := h5.1; omega
      · rw [show x3.toInt = 1 by omega] at h5; exact h5.2
    have e : x6 = 0 := Int64.toInt_inj.mp (by rw [show (0 : Int64).toInt = 0 from rfl]; omega)
    refine ⟨by omega, fun u h1 h2 => ?_⟩
    rw [f4, rBt_or, f2 u h1 h2, e]
    constructor
    · rintro (h | h)
      · exact Or.inl h
      · exact absurd h rBt_0
    · rintro (h | ⟨h, -⟩)
      · exact Or.inl h
      · exact absurd h hc)
  exact ⟨p, fun _ => rfl, ⟨(fun q h => by cases h), fun q h => (by cases h), (fun f h => by cases h), (aAllc ⟨_, rfl, (rF_b (r := 546) (by decide) rfl).mpr q0⟩ (fun f h => by cases h))⟩, [], List.mem_cons_self, fun f h => (by cases h)⟩
theorem rw_rvGl10 {K : Nat → Nat} {n : Nat} {JX : (Nat → jcell) → Prop} : aGho (rF K n) fa_T K n JX ag_rvGl10 := by
  refine aGho_of ⟨rfl, rfl⟩ ?_
  intro p σ ρ hH hX hA hM0
  have hG := aAG_of hA.1 (fun i e v he hv => (hA.2 i e v he hv).1)
  clear hA
  obtain ⟨v0, v1, v2, v3, v4, v5, v6, v7, v8, rfl, g0, g1, g2, g3, g4, g5, g6, g7, g8⟩ := rA_9 hG
  clear hG
  obtain ⟨x0, rfl, b0, d0⟩ := rG_ref (by decide) g0
  obtain ⟨x1, rfl, b1, d1⟩ := aG_int g1
  dsimp only at b1 d1
  obtain ⟨x2, rfl, b2, d2⟩ := aG_int g2
  dsimp only at b2 d2
  obtain ⟨x3, rfl, b3, d3⟩ := aG_int g3
  dsimp only at b3 d3
  obtain ⟨x4, rfl, b4, d4⟩ := aG_int g4
  dsimp only at b4 d4
  obtain ⟨x5, rfl⟩ := aG_lng g5
  obtain ⟨x6, rfl⟩ := aG_lng g6
  obtain ⟨x7, rfl⟩ := aG_lng g7
  obtain ⟨x8, rfl, b8, d8⟩ := aG_int g8
  dsimp only at b8 d8
  obtain ⟨m1, m2, m3, m4⟩ := hM0
  obtain ⟨M, hM⟩ := rMe_ex hH b0 d0
  obtain ⟨a0, c0, fs0, w0, e1, s0, t0, e4⟩ := m1 (0, 3, 8) (List.mem_of_getElem? (i := 0) rfl)
  obtain rfl : x0 = a0 := Sum.inl.inj (Option.some.inj (Sum.inr.inj (Sum.inr.inj (Option.some.inj (show some (rR x0) = some _ from e1)))))
  obtain rfl : rI x8 = w0 := Option.some.inj (show some (rI x8) = some w0 from e4)
  clear e1 e4
  have f0 : rB K n p 22 [rR x0] σ := by
    obtain ⟨w, e6, e7⟩ := m4 (353, [0]) (List.mem_of_getElem? (i := 0) rfl)
    obtain rfl : [rR x0] = w := Option.some.inj (show some [rR x0] = some w from e6)
    exact (rF_b (r := 353) (by decide) rfl).mp e7
  obtain ⟨hp, hR⟩ := ro_22.mp f0
  obtain rfl := rMg_u hM hR.1
  have uS : p.1.2.1 = x8.toInt := rRX_f hR.2.1 s0 t0
  have f1 : rB K n p 34 [rI x1, rL x5] σ := by
    obtain ⟨w, e6, e7⟩ := m4 (546, [1, 5]) (List.mem_of_getElem? (i := 1) rfl)
    obtain rfl : [rI x1, rL x5] = w := Option.some.inj (show some [rI x1, rL x5] = some w from e6)
    exact (rF_b (r := 546) (by decide) rfl).mp e7
  have f1 := ro_34.mp f1
  have f2 : rB K n p 32 [rI x2, rI x3] σ := by
    obtain ⟨w, e6, e7⟩ := m4 (514, [2, 3]) (List.mem_of_getElem? (i := 2) rfl)
    obtain rfl : [rI x2, rI x3] = w := Option.some.inj (show some [rI x2, rI x3] = some w from e6)
    exact (rF_b (r := 514) (by decide) rfl).mp e7
  have f2 := ro_32.mp f2
  have f3 : rB K n p 141 [rI x4, rL x6] σ := by
    obtain ⟨w, e6, e7⟩ := m4 (2258, [4, 6]) (List.mem_of_getElem? (i := 3) rfl)
    obtain rfl : [rI x4, rL x6] = w := Option.some.inj (show some [rI x4, rL x6] = some w from e6)
    exact (rF_b (r := 2258) (by decide) rfl).mp e7
  have f3 := ro_141.mp f3
  have f4 : rB K n p 100 [rL x5, rL x6, rL x7] σ := by
    obtain ⟨w, e6, e7⟩ := m4 (1603, [5, 6, 7]) (List.mem_of_getElem? (i := 4) rfl)
    obtain rfl : [rL x5, rL x6, rL x7] = w := Option.some.inj (show some [rL x5, rL x6, rL x7] = some w from e6)
    exact (rF_b (r := 1603) (by decide) rfl).mp e7
  have f4 : x7 = x5 ||| x6 := Sum.inl.inj (Sum.inr.inj (ro_100.mp f4))
  clear m1 m2 m3 m4
  have q0 : rB K n p 30 [rI x1, rL x7] σ := ro_30.mpr (by
    have hc : rCa p.1 0 := by
      rcases f2 with h5 | h5
      · rw [show x2.toInt = 0 by omega] at h5; exact h5.2
      · have := h5.1; omega
    intro u h1 h2
    rw [f4, rBt_or, f1.2 u h1 h2, f3 u h1 h2]
    unfold rGO
    have h6 := f1.1
    constructor
    · rintro ((h | ⟨h, h7⟩) | h)
      · exact Or.inr ⟨by omega, Or.inl h⟩
      · exact Or.inr ⟨by omega, Or.inr ⟨by omega, by omega, Or.inl ⟨h, h7⟩⟩⟩
      · exact Or.inr ⟨by omega, Or.inr ⟨by omega, by omega, Or.inr ⟨hc, by omega⟩⟩⟩
    · rintro (⟨h, -⟩ | ⟨-, h | ⟨-, -, h | ⟨-, h⟩⟩⟩)
      · omega
      · exact Or.inl (Or.inl h)
      · exact Or.inl (Or.inr h)
      · exact Or.inr (by omega))
  exact ⟨p, fun _ => rfl, ⟨(fun q h => by cases h), fun q h => (by cases h), (fun f h => by cases h), (aAllc ⟨_, rfl, (rF_b (r := 482) (by decide) rfl).mpr q0⟩ (fun f h => by cases h))⟩, [], List.mem_cons_self, fun f h => (by cases h)⟩
theorem rw_rvGl00 {K : Nat → Nat} {n : Nat} {JX : (Nat → jcell) → Prop} : aGho (rF K n) fa_T K n JX ag_rvGl00 := by
  refine aGho_of ⟨rfl, rfl⟩ ?_
  intro p σ ρ hH hX hA hM0
  have hG := aAG_of hA.1 (fun i e v he hv => (hA.2 i e v he hv).1)
  clear hA
  obtain ⟨v0, v1, v2, v3, v4, v5, v6, v7, rfl, g0, g1, g2, g3, g4, g5, g6, g7⟩ := rA_8 hG
  clear hG
  obtain ⟨x0, rfl, b0, d0⟩ := rG_ref (by decide) g0
  obtain ⟨x1, rfl, b1, d1⟩ := aG_int g1
  dsimp only at b1 d1
  obtain ⟨x2, rfl, b2, d2⟩ := aG_int g2
  dsimp only at b2 d2
  obtain ⟨x3, rfl, b3, d3⟩ := aG_int g3
  dsimp only at b3 d3
  obtain ⟨x4, rfl⟩ := aG_lng g4
  obtain ⟨x5, rfl⟩ := aG_lng g5
  obtain ⟨x6, rfl⟩ := aG_lng g6
  obtain ⟨x7, rfl, b7, d7⟩ := aG_int g7
  dsimp only at b7 d7
  obtain ⟨m1, m2, m3, m4⟩ := hM0
  obtain ⟨M, hM⟩ := rMe_ex hH b0 d0
  obtain ⟨a0, c0, fs0, w0, e1, s0, t0, e4⟩ := m1 (0, 3, 7) (List.mem_of_getElem? (i := 0) rfl)
  obtain rfl : x0 = a0 := Sum.inl.inj (Option.some.inj (Sum.inr.inj (Sum.inr.inj (Option.some.inj (show some (rR x0) = some _ from e1)))))
  obtain rfl : rI x7 = w0 := Option.some.inj (show some (rI x7) = some w0 from e4)
  clear e1 e4
  have l0 : 0 ≤ (1 * x5.toInt + 0) + 0 := by
    obtain ⟨z, e6, e7⟩ := m3 ([(5, 1)], 0) (List.mem_of_getElem? (i := 0) rfl)
    obtain rfl : (1 * x5.toInt + 0) = z := Option.some.inj (show some (1 * x5.toInt + 0) = some z from e6)
    exact e7
  have l1 : 0 ≤ (-1 * x5.toInt + 0) + 0 := by
    obtain ⟨z, e6, e7⟩ := m3 ([(5, -1)], 0) (List.mem_of_getElem? (i := 1) rfl)
    obtain rfl : (-1 * x5.toInt + 0) = z := Option.some.inj (show some (-1 * x5.toInt + 0) = some z from e6)
    exact e7
  have f0 : rB K n p 22 [rR x0] σ := by
    obtain ⟨w, e6, e7⟩ := m4 (353, [0]) (List.mem_of_getElem? (i := 0) rfl)
    obtain rfl : [rR x0] = w := Option.some.inj (show some [rR x0] = some w from e6)
    exact (rF_b (r := 353) (by decide) rfl).mp e7
  obtain ⟨hp, hR⟩ := ro_22.mp f0
  obtain rfl := rMg_u hM hR.1
  have uS : p.1.2.1 = x7.toInt := rRX_f hR.2.1 s0 t0
  have f1 : rB K n p 34 [rI x1, rL x4] σ := by
    obtain ⟨w, e6, e7⟩ := m4 (546, [1, 4]) (List.mem_of_getElem? (i := 1) rfl)
    obtain rfl : [rI x1, rL x4] = w := Option.some.inj (show some [rI x1, rL x4] = some w from e6)
    exact (rF_b (r := 546) (by decide) rfl).mp e7
  have f1 := ro_34.mp f1
  have f2 : rB K n p 32 [rI x2, rI x3] σ := by
    obtain ⟨w, e6, e7⟩ := m4 (514, [2, 3]) (List.mem_of_getElem? (i := 2) rfl)
    obtain rfl : [rI x2, rI x3] = w := Option.some.inj (show some [rI x2, rI x3] = some w from e6)
    exact (rF_b (r := 514) (by decide) rfl).mp e7
  have f2 := ro_32.mp f2
  have f3 : rB K n p 100 [rL x4, rL x5, rL x6] σ := by
    obtain ⟨w, e6, e7⟩ := m4 (1603, [4, 5, 6]) (List.mem_of_getElem? (i := 3) rfl)
    obtain rfl : [rL x4, rL x5, rL x6] = w := Option.some.inj (show some [rL x4, rL x5, rL x6] = some w from e6)
    exact (rF_b (r := 1603) (by decide) rfl).mp e7
  have f3 : x6 = x4 ||| x5 := Sum.inl.inj (Sum.inr.inj (ro_100.mp f3))
  clear m1 m2 m3 m4
  have q0 : rB K n p 30 [rI x1, rL x6] σ := ro_30.mpr (by
    have hc : ¬ rCa p.1 0 := by
      rcases f2 with h5 | h5
      · have := h5.1; omega
      · rw [show x2.toInt = 0 by omega] at h5; exact h5.2
    have e : x5 = 0 := Int64.toInt_inj.mp (by rw [show (0 : Int64).toInt = 0 from rfl]; omega)
    intro u h1 h2
    rw [f3, rBt_or, f1.2 u h1 h2, e]
    unfold rGO
    have h6 := f1.1
    constructor
    · rintro ((h | ⟨h, h7⟩) | h)
      · exact Or.inr ⟨by omega, Or.inl h⟩
      · exact Or.inr ⟨by omega, Or.inr ⟨by omega, by omega, Or.inl ⟨h, h7⟩⟩⟩
      · exact absurd h rBt_0
    · rintro (⟨h, -⟩ | ⟨-, h | ⟨-, -, h | ⟨h, -⟩⟩⟩)
      · omega
      · exact Or.inl (Or.inl h)
      · exact Or.inl (Or.inr h)
      · exact absurd h hc)
  exact ⟨p, fun _ => rfl, ⟨(fun q h => by cases h), fun q h => (by cases h), (fun f h => by cases h), (aAllc ⟨_, rfl, (rF_b (r := 482) (by decide) rfl).mpr q0⟩ (fun f h => by cases h))⟩, [], List.mem_cons_self, fun f h => (by cases h)⟩
theorem rw_rvG301 {K : Nat → Nat} {n : Nat} {JX : (Nat → jcell) → Prop} : aGho (rF K n) fa_T K n JX ag_rvG301 := by
  refine aGho_of ⟨rfl, rfl⟩ ?_
  intro p σ ρ hH hX hA hM0
  have hG := aAG_of hA.1 (fun i e v he hv => (hA.2 i e v he hv).1)
  clear hA
  obtain ⟨v0, v1, v2, v3, v4, rfl, g0, g1, g2, g3, g4⟩ := rA_5 hG
  clear hG
  obtain ⟨x0, rfl, b0, d0⟩ := rG_ref (by decide) g0
  obtain ⟨x1, rfl, b1, d1⟩ := aG_int g1
  dsimp only at b1 d1
  obtain ⟨x2, rfl, b2, d2⟩ := aG_int g2
  dsimp only at b2 d2
  obtain ⟨x3, rfl⟩ := aG_lng g3
  obtain ⟨x4, rfl, b4, d4⟩ := aG_int g4
  dsimp only at b4 d4
  obtain ⟨m1, m2, m3, m4⟩ := hM0
  obtain ⟨M, hM⟩ := rMe_ex hH b0 d0
  obtain ⟨a0, c0, fs0, w0, e1, s0, t0, e4⟩ := m1 (0, 3, 4) (List.mem_of_getElem? (i := 0) rfl)
  obtain rfl : x0 = a0 := Sum.inl.inj (Option.some.inj (Sum.inr.inj (Sum.inr.inj (Option.some.inj (show some (rR x0) = some _ from e1)))))
  obtain rfl : rI x4 = w0 := Option.some.inj (show some (rI x4) = some w0 from e4)
  clear e1 e4
  have f0 : rB K n p 22 [rR x0] σ := by
    obtain ⟨w, e6, e7⟩ := m4 (353, [0]) (List.mem_of_getElem? (i := 0) rfl)
    obtain rfl : [rR x0] = w := Option.some.inj (show some [rR x0] = some w from e6)
    exact (rF_b (r := 353) (by decide) rfl).mp e7
  obtain ⟨hp, hR⟩ := ro_22.mp f0
  obtain rfl := rMg_u hM hR.1
  have uS : p.1.2.1 = x4.toInt := rRX_f hR.2.1 s0 t0
  have f1 : rB K n p 148 [rR x0, rI x1, rI x2] σ := by
    obtain ⟨w, e6, e7⟩ := m4 (2371, [0, 1, 2]) (List.mem_of_getElem? (i := 1) rfl)
    obtain rfl : [rR x0, rI x1, rI x2] = w := Option.some.inj (show some [rR x0, rI x1, rI x2] = some w from e6)
    exact (rF_b (r := 2371) (by decide) rfl).mp e7
  obtain ⟨M9, h9, f1⟩ := ro_148.mp f1
  obtain rfl := rMg_u hM h9
  clear h9
  have f2 : rB K n p 153 [rR x0, rI x1, rL x3] σ := by
    obtain ⟨w, e6, e7⟩ := m4 (2451, [0, 1, 3]) (List.mem_of_getElem? (i := 2) rfl)
    obtain rfl : [rR x0, rI x1, rL x3] = w := Option.some.inj (show some [rR x0, rI x1, rL x3] = some w from e6)
    exact (rF_b (r := 2451) (by decide) rfl).mp e7
  obtain ⟨M9, h9, f2⟩ := ro_153.mp f2
  obtain rfl := rMg_u hM h9
  clear h9
  clear m1 m2 m3 m4
  have q0 : rB K n p 30 [rI x1, rL x3] σ := ro_30.mpr (by
    intro u h1 h2
    rw [f2 u h1 h2]
    unfold rGO
    constructor
    · intro h
      exact Or.inr ⟨by omega, Or.inl h⟩
    · rintro (⟨h, -⟩ | ⟨-, h | ⟨h, h3, -⟩⟩)
      · omega
      · exact h
      · omega)
  exact ⟨p, fun _ => rfl, ⟨(fun q h => by cases h), fun q h => (by cases h), (fun f h => by cases h), (aAllc ⟨_, rfl, (rF_b (r := 482) (by decide) rfl).mpr q0⟩ (fun f h => by cases h))⟩, [], List.mem_cons_self, fun f h => (by cases h)⟩
theorem rw_rvG311 {K : Nat → Nat} {n : Nat} {JX : (Nat → jcell) → Prop} : aGho (rF K n) fa_T K n JX ag_rvG311 := by
  refine aGho_of ⟨rfl, rfl⟩ ?_
  intro p σ ρ hH hX hA hM0
  have hG := aAG_of hA.1 (fun i e v he hv => (hA.2 i e v he hv).1)
  clear hA
  obtain ⟨v0, v1, v2, v3, v4, rfl, g0, g1, g2, g3, g4⟩ := rA_5 hG
  clear hG
  obtain ⟨x0, rfl, b0, d0⟩ := rG_ref (by decide) g0
  obtain ⟨x1, rfl, b1, d1⟩ := aG_int g1
  dsimp only at b1 d1
  obtain ⟨x2, rfl, b2, d2⟩ := aG_int g2
  dsimp only at b2 d2
  obtain ⟨x3, rfl⟩ := aG_lng g3
  obtain ⟨x4, rfl, b4, d4⟩ := aG_int g4
  dsimp only at b4 d4
  obtain ⟨m1, m2, m3, m4⟩ := hM0
  obtain ⟨M, hM⟩ := rMe_ex hH b0 d0
  obtain ⟨a0, c0, fs0, w0, e1, s0, t0, e4⟩ := m1 (0, 3, 4) (List.mem_of_getElem? (i := 0) rfl)
  obtain rfl : x0 = a0 := Sum.inl.inj (Option.some.inj (Sum.inr.inj (Sum.inr.inj (Option.some.inj (show some (rR x0) = some _ from e1)))))
  obtain rfl : rI x4 = w0 := Option.some.inj (show some (rI x4) = some w0 from e4)
  clear e1 e4
  have f0 : rB K n p 22 [rR x0] σ := by
    obtain ⟨w, e6, e7⟩ := m4 (353, [0]) (List.mem_of_getElem? (i := 0) rfl)
    obtain rfl : [rR x0] = w := Option.some.inj (show some [rR x0] = some w from e6)
    exact (rF_b (r := 353) (by decide) rfl).mp e7
  obtain ⟨hp, hR⟩ := ro_22.mp f0
  obtain rfl := rMg_u hM hR.1
  have uS : p.1.2.1 = x4.toInt := rRX_f hR.2.1 s0 t0
  have f1 : rB K n p 148 [rR x0, rI x1, rI x2] σ := by
    obtain ⟨w, e6, e7⟩ := m4 (2371, [0, 1, 2]) (List.mem_of_getElem? (i := 1) rfl)
    obtain rfl : [rR x0, rI x1, rI x2] = w := Option.some.inj (show some [rR x0, rI x1, rI x2] = some w from e6)
    exact (rF_b (r := 2371) (by decide) rfl).mp e7
  obtain ⟨M9, h9, f1⟩ := ro_148.mp f1
  obtain rfl := rMg_u hM h9
  clear h9
  have f2 : rB K n p 153 [rR x0, rI x1, rL x3] σ := by
    obtain ⟨w, e6, e7⟩ := m4 (2451, [0, 1, 3]) (List.mem_of_getElem? (i := 2) rfl)
    obtain rfl : [rR x0, rI x1, rL x3] = w := Option.some.inj (show some [rR x0, rI x1, rL x3] = some w from e6)
    exact (rF_b (r := 2451) (by decide) rfl).mp e7
  obtain ⟨M9, h9, f2⟩ := ro_153.mp f2
  obtain rfl := rMg_u hM h9
  clear h9
  clear m1 m2 m3 m4
  have q0 : rB K n p 30 [rI x1, rL x3] σ := ro_30.mpr (by
    intro u h1 h2
    rw [f2 u h1 h2]
    unfold rGO
    constructor
    · intro h
      exact Or.inr ⟨by omega, Or.inl h⟩
    · rintro (⟨h, -⟩ | ⟨-, h | ⟨h, h3, -⟩⟩)
      · omega
      · exact h
      · omega)
  exact ⟨p, fun _ => rfl, ⟨(fun q h => by cases h), fun q h => (by cases h), (fun f h => by cases h), (aAllc ⟨_, rfl, (rF_b (r := 482) (by decide) rfl).mpr q0⟩ (fun f h => by cases h))⟩, [], List.mem_cons_self, fun f h => (by cases h)⟩
theorem rw_rvGs11 {K : Nat → Nat} {n : Nat} {JX : (Nat → jcell) → Prop} : aGho (rF K n) fa_T K n JX ag_rvGs11 := by
  refine aGho_of ⟨rfl, rfl⟩ ?_
  intro p σ ρ hH hX hA hM0
  have hG := aAG_of hA.1 (fun i e v he hv => (hA.2 i e v he hv).1)
  clear hA
  obtain ⟨v0, v1, v2, v3, v4, v5, v6, v7, v8, v9, rfl, g0, g1, g2, g3, g4, g5, g6, g7, g8, g9⟩ := rA_10 hG
  clear hG
  obtain ⟨x0, rfl, b0, d0⟩ := rG_ref (by decide) g0
  obtain ⟨x1, rfl, b1, d1⟩ := aG_int g1
  dsimp only at b1 d1
  obtain ⟨x2, rfl, b2, d2⟩ := aG_int g2
  dsimp only at b2 d2
  obtain ⟨x3, rfl, b3, d3⟩ := aG_int g3
  dsimp only at b3 d3
  obtain ⟨x4, rfl, b4, d4⟩ := aG_int g4
  dsimp only at b4 d4
  obtain ⟨x5, rfl, b5, d5⟩ := aG_int g5
  dsimp only at b5 d5
  obtain ⟨x6, rfl⟩ := aG_lng g6
  obtain ⟨x7, rfl⟩ := aG_lng g7
  obtain ⟨x8, rfl⟩ := aG_lng g8
  obtain ⟨x9, rfl, b9, d9⟩ := aG_int g9
  dsimp only at b9 d9
  obtain ⟨m1, m2, m3, m4⟩ := hM0
  obtain ⟨M, hM⟩ := rMe_ex hH b0 d0
  obtain ⟨a0, c0, fs0, w0, e1, s0, t0, e4⟩ := m1 (0, 3, 9) (List.mem_of_getElem? (i := 0) rfl)
  obtain rfl : x0 = a0 := Sum.inl.inj (Option.some.inj (Sum.inr.inj (Sum.inr.inj (Option.some.inj (show some (rR x0) = some _ from e1)))))
  obtain rfl : rI x9 = w0 := Option.some.inj (show some (rI x9) = some w0 from e4)
  clear e1 e4
  have f0 : rB K n p 22 [rR x0] σ := by
    obtain ⟨w, e6, e7⟩ := m4 (353, [0]) (List.mem_of_getElem? (i := 0) rfl)
    obtain rfl : [rR x0] = w := Option.some.inj (show some [rR x0] = some w from e6)
    exact (rF_b (r := 353) (by decide) rfl).mp e7
  obtain ⟨hp, hR⟩ := ro_22.mp f0
  obtain rfl := rMg_u hM hR.1
  have uS : p.1.2.1 = x9.toInt := rRX_f hR.2.1 s0 t0
  have f1 : rB K n p 148 [rR x0, rI x1, rI x2] σ := by
    obtain ⟨w, e6, e7⟩ := m4 (2371, [0, 1, 2]) (List.mem_of_getElem? (i := 1) rfl)
    obtain rfl : [rR x0, rI x1, rI x2] = w := Option.some.inj (show some [rR x0, rI x1, rI x2] = some w from e6)
    exact (rF_b (r := 2371) (by decide) rfl).mp e7
  obtain ⟨M9, h9, f1⟩ := ro_148.mp f1
  obtain rfl := rMg_u hM h9
  clear h9
  have f2 : rB K n p 153 [rR x0, rI x1, rL x6] σ := by
    obtain ⟨w, e6, e7⟩ := m4 (2451, [0, 1, 6]) (List.mem_of_getElem? (i := 2) rfl)
    obtain rfl : [rR x0, rI x1, rL x6] = w := Option.some.inj (show some [rR x0, rI x1, rL x6] = some w from e6)
    exact (rF_b (r := 2451) (by decide) rfl).mp e7
  obtain ⟨M9, h9, f2⟩ := ro_153.mp f2
  obtain rfl := rMg_u hM h9
  clear h9
  have f3 : rB K n p 32 [rI x3, rI x4] σ := by
    obtain ⟨w, e6, e7⟩ := m4 (514, [3, 4]) (List.mem_of_getElem? (i := 3) rfl)
    obtain rfl : [rI x3, rI x4] = w := Option.some.inj (show some [rI x3, rI x4] = some w from e6)
    exact (rF_b (r := 514) (by decide) rfl).mp e7
  have f3 := ro_32.mp f3
  have f4 : rB K n p 141 [rI x5, rL x7] σ := by
    obtain ⟨w, e6, e7⟩ := m4 (2258, [5, 7]) (List.mem_of_getElem? (i := 4) rfl)
    obtain rfl : [rI x5, rL x7] = w := Option.some.inj (show some [rI x5, rL x7] = some w from e6)
    exact (rF_b (r := 2258) (by decide) rfl).mp e7
  have f4 := ro_141.mp f4
  have f5 : rB K n p 100 [rL x6, rL x7, rL x8] σ := by
    obtain ⟨w, e6, e7⟩ := m4 (1603, [6, 7, 8]) (List.mem_of_getElem? (i := 5) rfl)
    obtain rfl : [rL x6, rL x7, rL x8] = w := Option.some.inj (show some [rL x6, rL x7, rL x8] = some w from e6)
    exact (rF_b (r := 1603) (by decide) rfl).mp e7
  have f5 : x8 = x6 ||| x7 := Sum.inl.inj (Sum.inr.inj (ro_100.mp f5))
  clear m1 m2 m3 m4
  have q0 : rB K n p 34 [rI x1, rL x8] σ := ro_34.mpr (by
    have hc : rCa p.1 1 := by
      rcases f3 with h5 | h5
      · rw [show x3.toInt = 1 by omega] at h5; exact h5.2
      · have := h5.1; omega
    refine ⟨by omega, fun u h1 h2 => ?_⟩
    rw [f5, rBt_or, f2 u h1 h2, f4 u h1 h2]
    constructor
    · rintro (h | h)
      · exact Or.inl h
      · exact Or.inr ⟨hc, by omega⟩
    · rintro (h | ⟨-, h⟩)
      · exact Or.inl h
      · exact Or.inr (by omega))
  exact ⟨p, fun _ => rfl, ⟨(fun q h => by cases h), fun q h => (by cases h), (fun f h => by cases h), (aAllc ⟨_, rfl, (rF_b (r := 546) (by decide) rfl).mpr q0⟩ (fun f h => by cases h))⟩, [], List.mem_cons_self, fun f h => (by cases h)⟩
theorem rw_rvGs01 {K : Nat → Nat} {n : Nat} {JX : (Nat → jcell) → Prop} : aGho (rF K n) fa_T K n JX ag_rvGs01 := by
  refine aGho_of ⟨rfl, rfl⟩ ?_
  intro p σ ρ hH hX hA hM0
  have hG := aAG_of hA.1 (fun i e v he hv => (hA.2 i e v he hv).1)
  clear hA
  obtain ⟨v0, v1, v2, v3, v4, v5, v6, v7, v8, rfl, g0, g1, g2, g3, g4, g5, g6, g7, g8⟩ := rA_9 hG
  clear hG
  obtain ⟨x0, rfl, b0, d0⟩ := rG_ref (by decide) g0
  obtain ⟨x1, rfl, b1, d1⟩ := aG_int g1
  dsimp only at b1 d1
  obtain ⟨x2, rfl, b2, d2⟩ := aG_int g2
  dsimp only at b2 d2
  obtain ⟨x3, rfl, b3, d3⟩ := aG_int g3
  dsimp only at b3 d3
  obtain ⟨x4, rfl, b4, d4⟩ := aG_int g4
  dsimp only at b4 d4
  obtain ⟨x5, rfl⟩ := aG_lng g5
  obtain ⟨x6, rfl⟩ := aG_lng g6
  obtain ⟨x7, rfl⟩ := aG_lng g7
  obtain ⟨x8, rfl, b8, d8⟩ := aG_int g8
  dsimp only at b8 d8
  obtain ⟨m1, m2, m3, m4⟩ := hM0
  obtain ⟨M, hM⟩ := rMe_ex hH b0 d0
  obtain ⟨a0, c0, fs0, w0, e1, s0, t0, e4⟩ := m1 (0, 3, 8) (List.mem_of_getElem? (i := 0) rfl)
  obtain rfl : x0 = a0 := Sum.inl.inj (Option.some.inj (Sum.inr.inj (Sum.inr.inj (Option.some.inj (show some (rR x0) = some _ from e1)))))
  obtain rfl : rI x8 = w0 := Option.some.inj (show some (rI x8) = some w0 from e4)
  clear e1 e4
  have l0 : 0 ≤ (1 * x6.toInt + 0) + 0 := by
    obtain ⟨z, e6, e7⟩ := m3 ([(6, 1)], 0) (List.mem_of_getElem? (i := 0) rfl)
    obtain rfl : (1 * x6.toInt + 0) = z := Option.some.inj (show some (1 * x6.toInt + 0) = some z from e6)
    exact e7
  have l1 : 0 ≤ (-1 * x6.toInt + 0) + 0 := by
    obtain ⟨z, e6, e7⟩ := m3 ([(6, -1)], 0) (List.mem_of_getElem? (i := 1) rfl)
    obtain rfl : (-1 * x6.toInt + 0) = z := Option.some.inj (show some (-1 * x6.toInt + 0) = some z from e6)
    exact e7
  have f0 : rB K n p 22 [rR x0] σ := by
    obtain ⟨w, e6, e7⟩ := m4 (353, [0]) (List.mem_of_getElem? (i := 0) rfl)
    obtain rfl : [rR x0] = w := Option.some.inj (show some [rR x0] = some w from e6)
    exact (rF_b (r := 353) (by decide) rfl).mp e7
  obtain ⟨hp, hR⟩ := ro_22.mp f0
  obtain rfl := rMg_u hM hR.1
  have uS : p.1.2.1 = x8.toInt := rRX_f hR.2.1 s0 t0
  have f1 : rB K n p 148 [rR x0, rI x1, rI x2] σ := by
    obtain ⟨w, e6, e7⟩ := m4 (2371, [0, 1, 2]) (List.mem_of_getElem? (i := 1) rfl)
    obtain rfl : [rR x0, rI x1, rI x2] = w := Option.some.inj (show some [rR x0, rI x1, rI x2] = some w from e6)
    exact (rF_b (r := 2371) (by decide) rfl).mp e7
  obtain ⟨M9, h9, f1⟩ := ro_148.mp f1
  obtain rfl := rMg_u hM h9
  clear h9
  have f2 : rB K n p 153 [rR x0, rI x1, rL x5] σ := by
    obtain ⟨w, e6, e7⟩ := m4 (2451, [0, 1, 5]) (List.mem_of_getElem? (i := 2) rfl)
    obtain rfl : [rR x0, rI x1, rL x5] = w := Option.some.inj (show some [rR x0, rI x1, rL x5] = some w from e6)
    exact (rF_b (r := 2451) (by decide) rfl).mp e7
  obtain ⟨M9, h9, f2⟩ := ro_153.mp f2
  obtain rfl := rMg_u hM h9
  clear h9
  have f3 : rB K n p 32 [rI x3, rI x4] σ := by
    obtain ⟨w, e6, e7⟩ := m4 (514, [3, 4]) (List.mem_of_getElem? (i := 3) rfl)
    obtain rfl : [rI x3, rI x4] = w := Option.some.inj (show some [rI x3, rI x4] = some w from e6)
    exact (rF_b (r := 514) (by decide) rfl).mp e7
  have f3 := ro_32.mp f3
  have f4 : rB K n p 100 [rL x5, rL x6, rL x7] σ := by
    obtain ⟨w, e6, e7⟩ := m4 (1603, [5, 6, 7]) (List.mem_of_getElem? (i := 4) rfl)
    obtain rfl : [rL x5, rL x6, rL x7] = w := Option.some.inj (show some [rL x5, rL x6, rL x7] = some w from e6)
    exact (rF_b (r := 1603) (by decide) rfl).mp e7
  have f4 : x7 = x5 ||| x6 := Sum.inl.inj (Sum.inr.inj (ro_100.mp f4))
  clear m1 m2 m3 m4
  have q0 : rB K n p 34 [rI x1, rL x7] σ := ro_34.mpr (by
    have hc : ¬ rCa p.1 1 := by
      rcases f3 with h5 | h5
      · have := h5.1; omega
      · rw [show x3.toInt = 1 by omega] at h5; exact h5.2
    have e : x6 = 0 := Int64.toInt_inj.mp (by rw [show (0 : Int64).toInt = 0 from rfl]; omega)
    refine ⟨by omega, fun u h1 h2 => ?_⟩
    rw [f4, rBt_or, f2 u h1 h2, e]
    constructor
    · rintro (h | h)
      · exact Or.inl h
      · exact absurd h rBt_0
    · rintro (h | ⟨h, -⟩)
      · exact Or.inl h
      · exact absurd h hc)
  exact ⟨p, fun _ => rfl, ⟨(fun q h => by cases h), fun q h => (by cases h), (fun f h => by cases h), (aAllc ⟨_, rfl, (rF_b (r := 546) (by decide) rfl).mpr q0⟩ (fun f h => by cases h))⟩, [], List.mem_cons_self, fun f h => (by cases h)⟩
theorem rw_rvGl11 {K : Nat → Nat} {n : Nat} {JX : (Nat → jcell) → Prop} : aGho (rF K n) fa_T K n JX ag_rvGl11 := by
  refine aGho_of ⟨rfl, rfl⟩ ?_
  intro p σ ρ hH hX hA hM0
  have hG := aAG_of hA.1 (fun i e v he hv => (hA.2 i e v he hv).1)
  clear hA
  obtain ⟨v0, v1, v2, v3, v4, v5, v6, v7, v8, rfl, g0, g1, g2, g3, g4, g5, g6, g7, g8⟩ := rA_9 hG
  clear hG
  obtain ⟨x0, rfl, b0, d0⟩ := rG_ref (by decide) g0
  obtain ⟨x1, rfl, b1, d1⟩ := aG_int g1
  dsimp only at b1 d1
  obtain ⟨x2, rfl, b2, d2⟩ := aG_int g2
  dsimp only at b2 d2
  obtain ⟨x3, rfl, b3, d3⟩ := aG_int g3
  dsimp only at b3 d3
  obtain ⟨x4, rfl, b4, d4⟩ := aG_int g4
  dsimp only at b4 d4
  obtain ⟨x5, rfl⟩ := aG_lng g5
  obtain ⟨x6, rfl⟩ := aG_lng g6
  obtain ⟨x7, rfl⟩ := aG_lng g7
  obtain ⟨x8, rfl, b8, d8⟩ := aG_int g8
  dsimp only at b8 d8
  obtain ⟨m1, m2, m3, m4⟩ := hM0
  obtain ⟨M, hM⟩ := rMe_ex hH b0 d0
  obtain ⟨a0, c0, fs0, w0, e1, s0, t0, e4⟩ := m1 (0, 3, 8) (List.mem_of_getElem? (i := 0) rfl)
  obtain rfl : x0 = a0 := Sum.inl.inj (Option.some.inj (Sum.inr.inj (Sum.inr.inj (Option.some.inj (show some (rR x0) = some _ from e1)))))
  obtain rfl : rI x8 = w0 := Option.some.inj (show some (rI x8) = some w0 from e4)
  clear e1 e4
  have f0 : rB K n p 22 [rR x0] σ := by
    obtain ⟨w, e6, e7⟩ := m4 (353, [0]) (List.mem_of_getElem? (i := 0) rfl)
    obtain rfl : [rR x0] = w := Option.some.inj (show some [rR x0] = some w from e6)
    exact (rF_b (r := 353) (by decide) rfl).mp e7
  obtain ⟨hp, hR⟩ := ro_22.mp f0
  obtain rfl := rMg_u hM hR.1
  have uS : p.1.2.1 = x8.toInt := rRX_f hR.2.1 s0 t0
  have f1 : rB K n p 34 [rI x1, rL x5] σ := by
    obtain ⟨w, e6, e7⟩ := m4 (546, [1, 5]) (List.mem_of_getElem? (i := 1) rfl)
    obtain rfl : [rI x1, rL x5] = w := Option.some.inj (show some [rI x1, rL x5] = some w from e6)
    exact (rF_b (r := 546) (by decide) rfl).mp e7
  have f1 := ro_34.mp f1
  have f2 : rB K n p 32 [rI x2, rI x3] σ := by
    obtain ⟨w, e6, e7⟩ := m4 (514, [2, 3]) (List.mem_of_getElem? (i := 2) rfl)
    obtain rfl : [rI x2, rI x3] = w := Option.some.inj (show some [rI x2, rI x3] = some w from e6)
    exact (rF_b (r := 514) (by decide) rfl).mp e7
  have f2 := ro_32.mp f2
  have f3 : rB K n p 141 [rI x4, rL x6] σ := by
    obtain ⟨w, e6, e7⟩ := m4 (2258, [4, 6]) (List.mem_of_getElem? (i := 3) rfl)
    obtain rfl : [rI x4, rL x6] = w := Option.some.inj (show some [rI x4, rL x6] = some w from e6)
    exact (rF_b (r := 2258) (by decide) rfl).mp e7
  have f3 := ro_141.mp f3
  have f4 : rB K n p 100 [rL x5, rL x6, rL x7] σ := by
    obtain ⟨w, e6, e7⟩ := m4 (1603, [5, 6, 7]) (List.mem_of_getElem? (i := 4) rfl)
    obtain rfl : [rL x5, rL x6, rL x7] = w := Option.some.inj (show some [rL x5, rL x6, rL x7] = some w from e6)
    exact (rF_b (r := 1603) (by decide) rfl).mp e7
  have f4 : x7 = x5 ||| x6 := Sum.inl.inj (Sum.inr.inj (ro_100.mp f4))
  clear m1 m2 m3 m4
  have q0 : rB K n p 30 [rI x1, rL x7] σ := ro_30.mpr (by
    have hc : rCa p.1 0 := by
      rcases f2 with h5 | h5
      · rw [show x2.toInt = 0 by omega] at h5; exact h5.2
      · have := h5.1; omega
    intro u h1 h2
    rw [f4, rBt_or, f1.2 u h1 h2, f3 u h1 h2]
    unfold rGO
    have h6 := f1.1
    constructor
    · rintro ((h | ⟨h, h7⟩) | h)
      · exact Or.inr ⟨by omega, Or.inl h⟩
      · exact Or.inr ⟨by omega, Or.inr ⟨by omega, by omega, Or.inl ⟨h, h7⟩⟩⟩
      · exact Or.inr ⟨by omega, Or.inr ⟨by omega, by omega, Or.inr ⟨hc, by omega⟩⟩⟩
    · rintro (⟨h, -⟩ | ⟨-, h | ⟨-, -, h | ⟨-, h⟩⟩⟩)
      · omega
      · exact Or.inl (Or.inl h)
      · exact Or.inl (Or.inr h)
      · exact Or.inr (by omega))
  exact ⟨p, fun _ => rfl, ⟨(fun q h => by cases h), fun q h => (by cases h), (fun f h => by cases h), (aAllc ⟨_, rfl, (rF_b (r := 482) (by decide) rfl).mpr q0⟩ (fun f h => by cases h))⟩, [], List.mem_cons_self, fun f h => (by cases h)⟩
theorem rw_rvGl01 {K : Nat → Nat} {n : Nat} {JX : (Nat → jcell) → Prop} : aGho (rF K n) fa_T K n JX ag_rvGl01 := by
  refine aGho_of ⟨rfl, rfl⟩ ?_
  intro p σ ρ hH hX hA hM0
  have hG := aAG_of hA.1 (fun i e v he hv => (hA.2 i e v he hv).1)
  clear hA
  obtain ⟨v0, v1, v2, v3, v4, v5, v6, v7, rfl, g0, g1, g2, g3, g4, g5, g6, g7⟩ := rA_8 hG
  clear hG
  obtain ⟨x0, rfl, b0, d0⟩ := rG_ref (by decide) g0
  obtain ⟨x1, rfl, b1, d1⟩ := aG_int g1
  dsimp only at b1 d1
  obtain ⟨x2, rfl, b2, d2⟩ := aG_int g2
  dsimp only at b2 d2
  obtain ⟨x3, rfl, b3, d3⟩ := aG_int g3
  dsimp only at b3 d3
  obtain ⟨x4, rfl⟩ := aG_lng g4
  obtain ⟨x5, rfl⟩ := aG_lng g5
  obtain ⟨x6, rfl⟩ := aG_lng g6
  obtain ⟨x7, rfl, b7, d7⟩ := aG_int g7
  dsimp only at b7 d7
  obtain ⟨m1, m2, m3, m4⟩ := hM0
  obtain ⟨M, hM⟩ := rMe_ex hH b0 d0
  obtain ⟨a0, c0, fs0, w0, e1, s0, t0, e4⟩ := m1 (0, 3, 7) (List.mem_of_getElem? (i := 0) rfl)
  obtain rfl : x0 = a0 := Sum.inl.inj (Option.some.inj (Sum.inr.inj (Sum.inr.inj (Option.some.inj (show some (rR x0) = some _ from e1)))))
  obtain rfl : rI x7 = w0 := Option.some.inj (show some (rI x7) = some w0 from e4)
  clear e1 e4
  have l0 : 0 ≤ (1 * x5.toInt + 0) + 0 := by
    obtain ⟨z, e6, e7⟩ := m3 ([(5, 1)], 0) (List.mem_of_getElem? (i := 0) rfl)
    obtain rfl : (1 * x5.toInt + 0) = z := Option.some.inj (show some (1 * x5.toInt + 0) = some z from e6)
    exact e7
  have l1 : 0 ≤ (-1 * x5.toInt + 0) + 0 := by
    obtain ⟨z, e6, e7⟩ := m3 ([(5, -1)], 0) (List.mem_of_getElem? (i := 1) rfl)
    obtain rfl : (-1 * x5.toInt + 0) = z := Option.some.inj (show some (-1 * x5.toInt + 0) = some z from e6)
    exact e7
  have f0 : rB K n p 22 [rR x0] σ := by
    obtain ⟨w, e6, e7⟩ := m4 (353, [0]) (List.mem_of_getElem? (i := 0) rfl)
    obtain rfl : [rR x0] = w := Option.some.inj (show some [rR x0] = some w from e6)
    exact (rF_b (r := 353) (by decide) rfl).mp e7
  obtain ⟨hp, hR⟩ := ro_22.mp f0
  obtain rfl := rMg_u hM hR.1
  have uS : p.1.2.1 = x7.toInt := rRX_f hR.2.1 s0 t0
  have f1 : rB K n p 34 [rI x1, rL x4] σ := by
    obtain ⟨w, e6, e7⟩ := m4 (546, [1, 4]) (List.mem_of_getElem? (i := 1) rfl)
    obtain rfl : [rI x1, rL x4] = w := Option.some.inj (show some [rI x1, rL x4] = some w from e6)
    exact (rF_b (r := 546) (by decide) rfl).mp e7
  have f1 := ro_34.mp f1
  have f2 : rB K n p 32 [rI x2, rI x3] σ := by
    obtain ⟨w, e6, e7⟩ := m4 (514, [2, 3]) (List.mem_of_getElem? (i := 2) rfl)
    obtain rfl : [rI x2, rI x3] = w := Option.some.inj (show some [rI x2, rI x3] = some w from e6)
    exact (rF_b (r := 514) (by decide) rfl).mp e7
  have f2 := ro_32.mp f2
  have f3 : rB K n p 100 [rL x4, rL x5, rL x6] σ := by
    obtain ⟨w, e6, e7⟩ := m4 (1603, [4, 5, 6]) (List.mem_of_getElem? (i := 3) rfl)
    obtain rfl : [rL x4, rL x5, rL x6] = w := Option.some.inj (show some [rL x4, rL x5, rL x6] = some w from e6)
    exact (rF_b (r := 1603) (by decide) rfl).mp e7
  have f3 : x6 = x4 ||| x5 := Sum.inl.inj (Sum.inr.inj (ro_100.mp f3))
  clear m1 m2 m3 m4
  have q0 : rB K n p 30 [rI x1, rL x6] σ := ro_30.mpr (by
    have hc : ¬ rCa p.1 0 := by
      rcases f2 with h5 | h5
      · have := h5.1; omega
      · rw [show x2.toInt = 0 by omega] at h5; exact h5.2
    have e : x5 = 0 := Int64.toInt_inj.mp (by rw [show (0 : Int64).toInt = 0 from rfl]; omega)
    intro u h1 h2
    rw [f3, rBt_or, f1.2 u h1 h2, e]
    unfold rGO
    have h6 := f1.1
    constructor
    · rintro ((h | ⟨h, h7⟩) | h)
      · exact Or.inr ⟨by omega, Or.inl h⟩
      · exact Or.inr ⟨by omega, Or.inr ⟨by omega, by omega, Or.inl ⟨h, h7⟩⟩⟩
      · exact absurd h rBt_0
    · rintro (⟨h, -⟩ | ⟨-, h | ⟨-, -, h | ⟨h, -⟩⟩⟩)
      · omega
      · exact Or.inl (Or.inl h)
      · exact Or.inl (Or.inr h)
      · exact absurd h hc)
  exact ⟨p, fun _ => rfl, ⟨(fun q h => by cases h), fun q h => (by cases h), (fun f h => by cases h), (aAllc ⟨_, rfl, (rF_b (r := 482) (by decide) rfl).mpr q0⟩ (fun f h => by cases h))⟩, [], List.mem_cons_self, fun f h => (by cases h)⟩

