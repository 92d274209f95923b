/-! the reference: rules of uE to uH -/
theorem rw_rnW {N : Int} {K : Nat → Nat} {n : Nat} {JX : (Nat → jcell) → Prop} : aGho (rH N K n) fa_T K n JX ag_rnW := by
  refine aGho_of ⟨rfl, rfl⟩ ?_
  intro p σ ρ hH hX hA hM0
  have hG := aAG_of hA.1 (fun i e v he hv => (hA.2 i e v he hv).1)
  clear hA
  obtain ⟨v0, rfl, g0⟩ := rA_1 hG
  clear hG
  obtain ⟨x0, rfl, b0, d0⟩ := aG_int g0
  dsimp only at b0 d0
  obtain ⟨m1, m2, m3, m4⟩ := hM0
  have l0 : 0 ≤ (-2 * x0.toInt + 0) + 65535 := by
    obtain ⟨z, e6, e7⟩ := m3 ([(0, -2)], 65535) (List.mem_of_getElem? (i := 0) rfl)
    obtain rfl : (-2 * x0.toInt + 0) = z := Option.some.inj (show some (-2 * x0.toInt + 0) = some z from e6)
    exact e7
  clear m1 m2 m3 m4
  have r0 : 0 ≤ (-1 * x0.toInt + 0) + 32767 := by
    omega
  exact ⟨p, fun _ => rfl, ⟨(fun q h => by cases h), fun q h => (by cases h), (aAllc ⟨_, rfl, r0⟩ (fun f h => by cases h)), (fun f h => by cases h)⟩, [], List.mem_cons_self, fun f h => (by cases h)⟩
theorem rw_rnF0 {N : Int} {K : Nat → Nat} {n : Nat} {JX : (Nat → jcell) → Prop} : aGho (rH N K n) fa_T K n JX ag_rnF0 := by
  refine aGho_of ⟨rfl, rfl⟩ ?_
  intro p σ ρ hH hX hA hM0
  have hG := aAG_of hA.1 (fun i e v he hv => (hA.2 i e v he hv).1)
  clear hA
  obtain ⟨v0, v1, rfl, g0, g1⟩ := rA_2 hG
  clear hG
  obtain ⟨x0, rfl, b0, d0⟩ := rG_ref (by decide) g0
  obtain ⟨x1, rfl, b1, d1⟩ := aG_int g1
  dsimp only at b1 d1
  obtain ⟨m1, m2, m3, m4⟩ := hM0
  clear m1 m2 m3 m4
  have q0 : rB3 N K n p 370 [rR x0, rI x1] σ := ro3_370.mpr (by
    obtain ⟨g, rg⟩ := rRo_ex (ko := 55) (f := 14) (kr := 58) (len := 32768) hH rfl rfl rfl (by decide) b0 d0
    exact ⟨g, rg, fun j j0 j1 => by omega⟩)
  exact ⟨p, fun _ => rfl, ⟨(fun q h => by cases h), fun q h => (by cases h), (fun f h => by cases h), (aAllc ⟨_, rfl, (rF_b (r := 5922) (by decide) rfl).mpr q0⟩ (fun f h => by cases h))⟩, [], List.mem_cons_self, fun f h => (by cases h)⟩
theorem rw_rnFs {N : Int} {K : Nat → Nat} {n : Nat} {JX : (Nat → jcell) → Prop} : aGho (rH N K n) fa_T K n JX ag_rnFs := by
  refine aGho_of ⟨rfl, rfl⟩ ?_
  intro p σ ρ hH hX hA hM0
  have hG := aAG_of hA.1 (fun i e v he hv => (hA.2 i e v he hv).1)
  clear hA
  obtain ⟨v0, v1, v2, v3, rfl, g0, g1, g2, g3⟩ := rA_4 hG
  clear hG
  obtain ⟨x0, rfl, b0, d0⟩ := rG_ref (by decide) g0
  obtain ⟨x1, rfl, b1, d1⟩ := rG_ref (by decide) g1
  obtain ⟨x2, rfl, b2, d2⟩ := aG_int g2
  dsimp only at b2 d2
  obtain ⟨x3, rfl, b3, d3⟩ := aG_int g3
  dsimp only at b3 d3
  obtain ⟨m1, m2, m3, m4⟩ := hM0
  obtain ⟨a0, c0, fs0, w0, e1, s0, t0, e4⟩ := m1 (0, 14, 1) (List.mem_of_getElem? (i := 0) rfl)
  obtain rfl : x0 = a0 := Sum.inl.inj (Option.some.inj (Sum.inr.inj (Sum.inr.inj (Option.some.inj (show some (rR x0) = some _ from e1)))))
  obtain rfl : rR x1 = w0 := Option.some.inj (show some (rR x1) = some w0 from e4)
  clear e1 e4
  have f0 : rB3 N K n p 370 [rR x0, rI x2] σ := by
    obtain ⟨w, e6, e7⟩ := m4 (5922, [0, 2]) (List.mem_of_getElem? (i := 0) rfl)
    obtain rfl : [rR x0, rI x2] = w := Option.some.inj (show some [rR x0, rI x2] = some w from e6)
    exact (rF_b (r := 5922) (by decide) rfl).mp e7
  have f0 := ro3_370.mp f0
  clear m1 m2 m3 m4
  have q0 : rB3 N K n p 371 [rR x0, rI x2] (jup σ x1 (jsto (σ x1) x2.toNatClampNeg x3)) := ro3_371.mpr (by
    obtain ⟨g, r, kk⟩ := f0
    refine ⟨_, rRo_up r s0 t0, fun j j0 j1 => ?_⟩
    have hi : x2.toNatClampNeg = x2.toInt.toNat := rfl
    unfold upd
    by_cases cj : j = x2.toInt
    · rw [if_pos (by rw [hi]; omega)]
      exact d3
    · rw [if_neg (by rw [hi]; omega)]
      exact kk j j0 (by omega))
  exact ⟨p, fun _ => rfl, ⟨(fun q h => by cases h), fun q h => (by cases h), (fun f h => by cases h), (aAllc ⟨_, rfl, rF_p (r := 5938) (by decide) (by decide) q0⟩ (fun f h => by cases h))⟩, [], List.mem_cons_self, fun f h => (by cases h)⟩
theorem rw_rnFn {N : Int} {K : Nat → Nat} {n : Nat} {JX : (Nat → jcell) → Prop} : aGho (rH N K n) fa_T K n JX ag_rnFn := by
  refine aGho_of ⟨rfl, rfl⟩ ?_
  intro p σ ρ hH hX hA hM0
  have hG := aAG_of hA.1 (fun i e v he hv => (hA.2 i e v he hv).1)
  clear hA
  obtain ⟨v0, v1, v2, rfl, g0, g1, g2⟩ := rA_3 hG
  clear hG
  obtain ⟨x0, rfl, b0, d0⟩ := rG_ref (by decide) g0
  obtain ⟨x1, rfl, b1, d1⟩ := aG_int g1
  dsimp only at b1 d1
  obtain ⟨x2, rfl, b2, d2⟩ := aG_int g2
  dsimp only at b2 d2
  obtain ⟨m1, m2, m3, m4⟩ := hM0
  have l0 : 0 ≤ (1 * x2.toInt + (-1 * x1.toInt + 0)) + -1 := by
    obtain ⟨z, e6, e7⟩ := m3 ([(2, 1), (1, -1)], -1) (List.mem_of_getElem? (i := 0) rfl)
    obtain rfl : (1 * x2.toInt + (-1 * x1.toInt + 0)) = z := Option.some.inj (show some (1 * x2.toInt + (-1 * x1.toInt + 0)) = some z from e6)
    exact e7
  have l1 : 0 ≤ (-1 * x2.toInt + (1 * x1.toInt + 0)) + 1 := by
    obtain ⟨z, e6, e7⟩ := m3 ([(2, -1), (1, 1)], 1) (List.mem_of_getElem? (i := 1) rfl)
    obtain rfl : (-1 * x2.toInt + (1 * x1.toInt + 0)) = z := Option.some.inj (show some (-1 * x2.toInt + (1 * x1.toInt + 0)) = some z from e6)
    exact e7
  have f0 : rB3 N K n p 371 [rR x0, rI x1] σ := by
    obtain ⟨w, e6, e7⟩ := m4 (5938, [0, 1]) (List.mem_of_getElem? (i := 0) rfl)
    obtain rfl : [rR x0, rI x1] = w := Option.some.inj (show some [rR x0, rI x1] = some w from e6)
    exact (rF_b (r := 5938) (by decide) rfl).mp e7
  have f0 := ro3_371.mp f0
  clear m1 m2 m3 m4
  have q0 : rB3 N K n p 370 [rR x0, rI x2] σ := ro3_370.mpr (by
    obtain ⟨g, r, kk⟩ := f0
    exact ⟨g, r, fun j j0 j1 => kk j j0 (by omega)⟩)
  exact ⟨p, fun _ => rfl, ⟨(fun q h => by cases h), fun q h => (by cases h), (fun f h => by cases h), (aAllc ⟨_, rfl, (rF_b (r := 5922) (by decide) rfl).mpr q0⟩ (fun f h => by cases h))⟩, [], List.mem_cons_self, fun f h => (by cases h)⟩
theorem rw_rnFv {N : Int} {K : Nat → Nat} {n : Nat} {JX : (Nat → jcell) → Prop} : aGho (rH N K n) fa_T K n JX ag_rnFv := by
  refine aGho_of ⟨rfl, rfl⟩ ?_
  intro p σ ρ hH hX hA hM0
  have hG := aAG_of hA.1 (fun i e v he hv => (hA.2 i e v he hv).1)
  clear hA
  obtain ⟨v0, v1, v2, v3, v4, rfl, g0, g1, g2, g3, g4⟩ := rA_5 hG
  clear hG
  obtain ⟨x0, rfl, b0, d0⟩ := rG_ref (by decide) g0
  obtain ⟨x1, rfl, b1, d1⟩ := aG_int g1
  dsimp only at b1 d1
  obtain ⟨x2, rfl, b2, d2⟩ := aG_int g2
  dsimp only at b2 d2
  obtain ⟨x3, rfl, b3, d3⟩ := aG_int g3
  dsimp only at b3 d3
  obtain ⟨x4, rfl, b4, d4⟩ := rG_ref (by decide) g4
  obtain ⟨m1, m2, m3, m4⟩ := hM0
  obtain ⟨a0, c0, fs0, w0, e1, s0, t0, e4⟩ := m1 (0, 14, 4) (List.mem_of_getElem? (i := 0) rfl)
  obtain rfl : x0 = a0 := Sum.inl.inj (Option.some.inj (Sum.inr.inj (Sum.inr.inj (Option.some.inj (show some (rR x0) = some _ from e1)))))
  obtain rfl : rR x4 = w0 := Option.some.inj (show some (rR x4) = some w0 from e4)
  clear e1 e4
  obtain ⟨a, mc0, ty0, gc0, ic0, e1, sc0, jc0, e4, e5⟩ := m2 (4, ([(2, 1)], 0), 3) (List.mem_of_getElem? (i := 0) rfl)
  obtain rfl : x4 = a := Sum.inl.inj (Option.some.inj (Sum.inr.inj (Sum.inr.inj (Option.some.inj (show some (rR x4) = some _ from e1)))))
  obtain ⟨gc0, rfl⟩ : ∃ g, gc0 = .inl g := by
    rcases gc0 with g | g
    · exact ⟨g, rfl⟩
    · exact absurd (show some (rI x3) = some (.inr (.inl (g ic0))) from e5) (fun h => by cases h)
  have sc0 : σ x4 = .inl (ty0, mc0, .inl gc0) := sc0
  have ec0 : x3 = gc0 ic0 := Sum.inl.inj (Option.some.inj (show some (rI x3) = some _ from e5))
  have kc0 : (ic0 : Int) = (1 * x2.toInt + 0) + 0 := by
    obtain ⟨z, e6, e7⟩ := e4
    obtain rfl : (1 * x2.toInt + 0) = z := Option.some.inj (show some (1 * x2.toInt + 0) = some z from e6)
    exact e7
  clear e1 e4 e5
  have l0 : 0 ≤ (1 * x1.toInt + (-1 * x2.toInt + 0)) + -1 := by
    obtain ⟨z, e6, e7⟩ := m3 ([(1, 1), (2, -1)], -1) (List.mem_of_getElem? (i := 0) rfl)
    obtain rfl : (1 * x1.toInt + (-1 * x2.toInt + 0)) = z := Option.some.inj (show some (1 * x1.toInt + (-1 * x2.toInt + 0)) = some z from e6)
    exact e7
  have f0 : rB3 N K n p 370 [rR x0, rI x1] σ := by
    obtain ⟨w, e6, e7⟩ := m4 (5922, [0, 1]) (List.mem_of_getElem? (i := 0) rfl)
    obtain rfl : [rR x0, rI x1] = w := Option.some.inj (show some [rR x0, rI x1] = some w from e6)
    exact (rF_b (r := 5922) (by decide) rfl).mp e7
  have f0 := ro3_370.mp f0
  clear m1 m2 m3 m4
  have r0 : 0 ≤ (-1 * x3.toInt + 0) + 65535 := by
    obtain ⟨g, r, kk⟩ := f0
    have e := rRo_c (i := ic0) r s0 t0 sc0 ec0
    have h := kk x2.toInt b2 (by omega)
    rw [show x2.toInt.toNat = ic0 by omega, e] at h
    omega
  exact ⟨p, fun _ => rfl, ⟨(fun q h => by cases h), fun q h => (by cases h), (aAllc ⟨_, rfl, r0⟩ (fun f h => by cases h)), (fun f h => by cases h)⟩, [], List.mem_cons_self, fun f h => (by cases h)⟩
theorem rw_rnG0 {N : Int} {K : Nat → Nat} {n : Nat} {JX : (Nat → jcell) → Prop} : aGho (rH N K n) fa_T K n JX ag_rnG0 := by
  refine aGho_of ⟨rfl, rfl⟩ ?_
  intro p σ ρ hH hX hA hM0
  have hG := aAG_of hA.1 (fun i e v he hv => (hA.2 i e v he hv).1)
  clear hA
  obtain ⟨v0, v1, rfl, g0, g1⟩ := rA_2 hG
  clear hG
  obtain ⟨x0, rfl, b0, d0⟩ := rG_ref (by decide) g0
  obtain ⟨x1, rfl, b1, d1⟩ := aG_int g1
  dsimp only at b1 d1
  obtain ⟨m1, m2, m3, m4⟩ := hM0
  clear m1 m2 m3 m4
  have q0 : rB3 N K n p 372 [rR x0, rI x1] σ := ro3_372.mpr (by
    obtain ⟨g, rg⟩ := rRo_ex (ko := 55) (f := 14) (kr := 58) (len := 32768) hH rfl rfl rfl (by decide) b0 d0
    obtain ⟨h, rh⟩ := rRo_ex (ko := 55) (f := 15) (kr := 59) (len := 32768) hH rfl rfl rfl (by decide) b0 d0
    exact ⟨g, h, rg, rh, fun j j0 j1 => by omega⟩)
  exact ⟨p, fun _ => rfl, ⟨(fun q h => by cases h), fun q h => (by cases h), (fun f h => by cases h), (aAllc ⟨_, rfl, (rF_b (r := 5954) (by decide) rfl).mpr q0⟩ (fun f h => by cases h))⟩, [], List.mem_cons_self, fun f h => (by cases h)⟩
theorem rw_rnGa {N : Int} {K : Nat → Nat} {n : Nat} {JX : (Nat → jcell) → Prop} : aGho (rH N K n) fa_T K n JX ag_rnGa := by
  refine aGho_of ⟨rfl, rfl⟩ ?_
  intro p σ ρ hH hX hA hM0
  have hG := aAG_of hA.1 (fun i e v he hv => (hA.2 i e v he hv).1)
  clear hA
  obtain ⟨v0, v1, v2, v3, rfl, g0, g1, g2, g3⟩ := rA_4 hG
  clear hG
  obtain ⟨x0, rfl, b0, d0⟩ := rG_ref (by decide) g0
  obtain ⟨x1, rfl, b1, d1⟩ := rG_ref (by decide) g1
  obtain ⟨x2, rfl, b2, d2⟩ := aG_int g2
  dsimp only at b2 d2
  obtain ⟨x3, rfl, b3, d3⟩ := aG_int g3
  dsimp only at b3 d3
  obtain ⟨m1, m2, m3, m4⟩ := hM0
  obtain ⟨a0, c0, fs0, w0, e1, s0, t0, e4⟩ := m1 (0, 14, 1) (List.mem_of_getElem? (i := 0) rfl)
  obtain rfl : x0 = a0 := Sum.inl.inj (Option.some.inj (Sum.inr.inj (Sum.inr.inj (Option.some.inj (show some (rR x0) = some _ from e1)))))
  obtain rfl : rR x1 = w0 := Option.some.inj (show some (rR x1) = some w0 from e4)
  clear e1 e4
  clear m1 m2 m3 m4
  have q0 : rB3 N K n p 374 [rR x0, rI x2, rI x3] (jup σ x1 (jsto (σ x1) x2.toNatClampNeg x3)) := ro3_374.mpr (by
    obtain ⟨g, h⟩ := rRo_of (k := 55) (f := 14) (kr := 58) (len := 32768) hH b0 d0 s0 t0 b1 d1 rfl
    refine ⟨b2, _, rRo_up h s0 t0, ?_⟩
    have hi : x2.toNatClampNeg = x2.toInt.toNat := rfl
    unfold upd
    rw [if_pos (by rw [hi])])
  exact ⟨p, fun _ => rfl, ⟨(fun q h => by cases h), fun q h => (by cases h), (fun f h => by cases h), (aAllc ⟨_, rfl, rF_p (r := 5987) (by decide) (by decide) q0⟩ (fun f h => by cases h))⟩, [], List.mem_cons_self, fun f h => (by cases h)⟩
theorem rw_rnGb {N : Int} {K : Nat → Nat} {n : Nat} {JX : (Nat → jcell) → Prop} : aGho (rH N K n) fa_T K n JX ag_rnGb := by
  refine aGho_of ⟨rfl, rfl⟩ ?_
  intro p σ ρ hH hX hA hM0
  have hG := aAG_of hA.1 (fun i e v he hv => (hA.2 i e v he hv).1)
  clear hA
  obtain ⟨v0, v1, v2, v3, v4, rfl, g0, g1, g2, g3, g4⟩ := rA_5 hG
  clear hG
  obtain ⟨x0, rfl, b0, d0⟩ := rG_ref (by decide) g0
  obtain ⟨x1, rfl, b1, d1⟩ := rG_ref (by decide) g1
  obtain ⟨x2, rfl, b2, d2⟩ := aG_int g2
  dsimp only at b2 d2
  obtain ⟨x3, rfl, b3, d3⟩ := aG_int g3
  dsimp only at b3 d3
  obtain ⟨x4, rfl, b4, d4⟩ := aG_int g4
  dsimp only at b4 d4
  obtain ⟨m1, m2, m3, m4⟩ := hM0
  obtain ⟨a0, c0, fs0, w0, e1, s0, t0, e4⟩ := m1 (0, 15, 1) (List.mem_of_getElem? (i := 0) rfl)
  obtain rfl : x0 = a0 := Sum.inl.inj (Option.some.inj (Sum.inr.inj (Sum.inr.inj (Option.some.inj (show some (rR x0) = some _ from e1)))))
  obtain rfl : rR x1 = w0 := Option.some.inj (show some (rR x1) = some w0 from e4)
  clear e1 e4
  have l0 : 0 ≤ (1 * x3.toInt + (-1 * x4.toInt + 0)) + -1 := by
    obtain ⟨z, e6, e7⟩ := m3 ([(3, 1), (4, -1)], -1) (List.mem_of_getElem? (i := 0) rfl)
    obtain rfl : (1 * x3.toInt + (-1 * x4.toInt + 0)) = z := Option.some.inj (show some (1 * x3.toInt + (-1 * x4.toInt + 0)) = some z from e6)
    exact e7
  have f0 : rB3 N K n p 372 [rR x0, rI x2] σ := by
    obtain ⟨w, e6, e7⟩ := m4 (5954, [0, 2]) (List.mem_of_getElem? (i := 0) rfl)
    obtain rfl : [rR x0, rI x2] = w := Option.some.inj (show some [rR x0, rI x2] = some w from e6)
    exact (rF_b (r := 5954) (by decide) rfl).mp e7
  have f0 := ro3_372.mp f0
  have f1 : rB3 N K n p 374 [rR x0, rI x2, rI x4] σ := by
    obtain ⟨w, e6, e7⟩ := m4 (5987, [0, 2, 4]) (List.mem_of_getElem? (i := 1) rfl)
    obtain rfl : [rR x0, rI x2, rI x4] = w := Option.some.inj (show some [rR x0, rI x2, rI x4] = some w from e6)
    exact (rF_b (r := 5987) (by decide) rfl).mp e7
  have f1 := ro3_374.mp f1
  clear m1 m2 m3 m4
  have q0 : rB3 N K n p 373 [rR x0, rI x2] (jup σ x1 (jsto (σ x1) x2.toNatClampNeg x3)) := ro3_373.mpr (by
    obtain ⟨g, h, rg, rh, kk⟩ := f0
    obtain ⟨-, g9, r9, e9⟩ := f1
    obtain rfl := rRo_u rg r9
    refine ⟨g, _, rRo_o rg (by omega) (by omega), rRo_up rh s0 t0, fun j j0 j1 => ?_⟩
    have hi : x2.toNatClampNeg = x2.toInt.toNat := rfl
    unfold upd
    by_cases cj : j = x2.toInt
    · rw [if_pos (by rw [hi]; omega), cj, e9]
      omega
    · rw [if_neg (by rw [hi]; omega)]
      exact kk j j0 (by omega))
  exact ⟨p, fun _ => rfl, ⟨(fun q h => by cases h), fun q h => (by cases h), (fun f h => by cases h), (aAllc ⟨_, rfl, rF_p (r := 5970) (by decide) (by decide) q0⟩ (fun f h => by cases h))⟩, [], List.mem_cons_self, fun f h => (by cases h)⟩
theorem rw_rnGn {N : Int} {K : Nat → Nat} {n : Nat} {JX : (Nat → jcell) → Prop} : aGho (rH N K n) fa_T K n JX ag_rnGn := by
  refine aGho_of ⟨rfl, rfl⟩ ?_
  intro p σ ρ hH hX hA hM0
  have hG := aAG_of hA.1 (fun i e v he hv => (hA.2 i e v he hv).1)
  clear hA
  obtain ⟨v0, v1, v2, rfl, g0, g1, g2⟩ := rA_3 hG
  clear hG
  obtain ⟨x0, rfl, b0, d0⟩ := rG_ref (by decide) g0
  obtain ⟨x1, rfl, b1, d1⟩ := aG_int g1
  dsimp only at b1 d1
  obtain ⟨x2, rfl, b2, d2⟩ := aG_int g2
  dsimp only at b2 d2
  obtain ⟨m1, m2, m3, m4⟩ := hM0
  have l0 : 0 ≤ (1 * x2.toInt + (-1 * x1.toInt + 0)) + -1 := by
    obtain ⟨z, e6, e7⟩ := m3 ([(2, 1), (1, -1)], -1) (List.mem_of_getElem? (i := 0) rfl)
    obtain rfl : (1 * x2.toInt + (-1 * x1.toInt + 0)) = z := Option.some.inj (show some (1 * x2.toInt + (-1 * x1.toInt + 0)) = some z from e6)
    exact e7
  have l1 : 0 ≤ (-1 * x2.toInt + (1 * x1.toInt + 0)) + 1 := by
    obtain ⟨z, e6, e7⟩ := m3 ([(2, -1), (1, 1)], 1) (List.mem_of_getElem? (i := 1) rfl)
    obtain rfl : (-1 * x2.toInt + (1 * x1.toInt + 0)) = z := Option.some.inj (show some (-1 * x2.toInt + (1 * x1.toInt + 0)) = some z from e6)
    exact e7
  have f0 : rB3 N K n p 373 [rR x0, rI x1] σ := by
    obtain ⟨w, e6, e7⟩ := m4 (5970, [0, 1]) (List.mem_of_getElem? (i := 0) rfl)
    obtain rfl : [rR x0, rI x1] = w := Option.some.inj (show some [rR x0, rI x1] = some w from e6)
    exact (rF_b (r := 5970) (by decide) rfl).mp e7
  have f0 := ro3_373.mp f0
  clear m1 m2 m3 m4
  have q0 : rB3 N K n p 372 [rR x0, rI x2] σ := ro3_372.mpr (by
    obtain ⟨g, h, rg, rh, kk⟩ := f0
    exact ⟨g, h, rg, rh, fun j j0 j1 => kk j j0 (by omega)⟩)
  exact ⟨p, fun _ => rfl, ⟨(fun q h => by cases h), fun q h => (by cases h), (fun f h => by cases h), (aAllc ⟨_, rfl, (rF_b (r := 5954) (by decide) rfl).mpr q0⟩ (fun f h => by cases h))⟩, [], List.mem_cons_self, fun f h => (by cases h)⟩
theorem rw_rnGv {N : Int} {K : Nat → Nat} {n : Nat} {JX : (Nat → jcell) → Prop} : aGho (rH N K n) fa_T K n JX ag_rnGv := by
  refine aGho_of ⟨rfl, rfl⟩ ?_
  intro p σ ρ hH hX hA hM0
  have hG := aAG_of hA.1 (fun i e v he hv => (hA.2 i e v he hv).1)
  clear hA
  obtain ⟨v0, v1, v2, v3, v4, v5, v6, rfl, g0, g1, g2, g3, g4, g5, g6⟩ := rA_7 hG
  clear hG
  obtain ⟨x0, rfl, b0, d0⟩ := rG_ref (by decide) g0
  obtain ⟨x1, rfl, b1, d1⟩ := aG_int g1
  dsimp only at b1 d1
  obtain ⟨x2, rfl, b2, d2⟩ := aG_int g2
  dsimp only at b2 d2
  obtain ⟨x3, rfl, b3, d3⟩ := aG_int g3
  dsimp only at b3 d3
  obtain ⟨x4, rfl, b4, d4⟩ := aG_int g4
  dsimp only at b4 d4
  obtain ⟨x5, rfl, b5, d5⟩ := rG_ref (by decide) g5
  obtain ⟨x6, rfl, b6, d6⟩ := rG_ref (by decide) g6
  obtain ⟨m1, m2, m3, m4⟩ := hM0
  obtain ⟨a0, c0, fs0, w0, e1, s0, t0, e4⟩ := m1 (0, 14, 5) (List.mem_of_getElem? (i := 0) rfl)
  obtain rfl : x0 = a0 := Sum.inl.inj (Option.some.inj (Sum.inr.inj (Sum.inr.inj (Option.some.inj (show some (rR x0) = some _ from e1)))))
  obtain rfl : rR x5 = w0 := Option.some.inj (show some (rR x5) = some w0 from e4)
  clear e1 e4
  obtain ⟨a1, c1, fs1, w1, e1, s1, t1, e4⟩ := m1 (0, 15, 6) (List.mem_of_getElem? (i := 1) rfl)
  obtain rfl : x0 = a1 := Sum.inl.inj (Option.some.inj (Sum.inr.inj (Sum.inr.inj (Option.some.inj (show some (rR x0) = some _ from e1)))))
  obtain rfl : rR x6 = w1 := Option.some.inj (show some (rR x6) = some w1 from e4)
  clear e1 e4
  obtain ⟨a, mc0, ty0, gc0, ic0, e1, sc0, jc0, e4, e5⟩ := m2 (5, ([(2, 1)], 0), 3) (List.mem_of_getElem? (i := 0) rfl)
  obtain rfl : x5 = a := Sum.inl.inj (Option.some.inj (Sum.inr.inj (Sum.inr.inj (Option.some.inj (show some (rR x5) = some _ from e1)))))
  obtain ⟨gc0, rfl⟩ : ∃ g, gc0 = .inl g := by
    rcases gc0 with g | g
    · exact ⟨g, rfl⟩
    · exact absurd (show some (rI x3) = some (.inr (.inl (g ic0))) from e5) (fun h => by cases h)
  have sc0 : σ x5 = .inl (ty0, mc0, .inl gc0) := sc0
  have ec0 : x3 = gc0 ic0 := Sum.inl.inj (Option.some.inj (show some (rI x3) = some _ from e5))
  have kc0 : (ic0 : Int) = (1 * x2.toInt + 0) + 0 := by
    obtain ⟨z, e6, e7⟩ := e4
    obtain rfl : (1 * x2.toInt + 0) = z := Option.some.inj (show some (1 * x2.toInt + 0) = some z from e6)
    exact e7
  clear e1 e4 e5
  obtain ⟨a, mc1, ty1, gc1, ic1, e1, sc1, jc1, e4, e5⟩ := m2 (6, ([(2, 1)], 0), 4) (List.mem_of_getElem? (i := 1) rfl)
  obtain rfl : x6 = a := Sum.inl.inj (Option.some.inj (Sum.inr.inj (Sum.inr.inj (Option.some.inj (show some (rR x6) = some _ from e1)))))
  obtain ⟨gc1, rfl⟩ : ∃ g, gc1 = .inl g := by
    rcases gc1 with g | g
    · exact ⟨g, rfl⟩
    · exact absurd (show some (rI x4) = some (.inr (.inl (g ic1))) from e5) (fun h => by cases h)
  have sc1 : σ x6 = .inl (ty1, mc1, .inl gc1) := sc1
  have ec1 : x4 = gc1 ic1 := Sum.inl.inj (Option.some.inj (show some (rI x4) = some _ from e5))
  have kc1 : (ic1 : Int) = (1 * x2.toInt + 0) + 0 := by
    obtain ⟨z, e6, e7⟩ := e4
    obtain rfl : (1 * x2.toInt + 0) = z := Option.some.inj (show some (1 * x2.toInt + 0) = some z from e6)
    exact e7
  clear e1 e4 e5
  have l0 : 0 ≤ (1 * x1.toInt + (-1 * x2.toInt + 0)) + -1 := by
    obtain ⟨z, e6, e7⟩ := m3 ([(1, 1), (2, -1)], -1) (List.mem_of_getElem? (i := 0) rfl)
    obtain rfl : (1 * x1.toInt + (-1 * x2.toInt + 0)) = z := Option.some.inj (show some (1 * x1.toInt + (-1 * x2.toInt + 0)) = some z from e6)
    exact e7
  have f0 : rB3 N K n p 372 [rR x0, rI x1] σ := by
    obtain ⟨w, e6, e7⟩ := m4 (5954, [0, 1]) (List.mem_of_getElem? (i := 0) rfl)
    obtain rfl : [rR x0, rI x1] = w := Option.some.inj (show some [rR x0, rI x1] = some w from e6)
    exact (rF_b (r := 5954) (by decide) rfl).mp e7
  have f0 := ro3_372.mp f0
  clear m1 m2 m3 m4
  have r0 : 0 ≤ (1 * x4.toInt + (-1 * x3.toInt + 0)) + -1 := by
    obtain ⟨g, h, rg, rh, kk⟩ := f0
    have e := rRo_c (i := ic0) rg s0 t0 sc0 ec0
    have e2 := rRo_c (i := ic1) rh s1 t1 sc1 ec1
    have h := kk x2.toInt b2 (by omega)
    rw [show x2.toInt.toNat = ic0 by omega, e, show ic0 = ic1 by omega, e2] at h
    omega
  exact ⟨p, fun _ => rfl, ⟨(fun q h => by cases h), fun q h => (by cases h), (aAllc ⟨_, rfl, r0⟩ (fun f h => by cases h)), (fun f h => by cases h)⟩, [], List.mem_cons_self, fun f h => (by cases h)⟩
theorem rw_rnP {N : Int} {K : Nat → Nat} {n : Nat} {JX : (Nat → jcell) → Prop} : aGho (rH N K n) fa_T K n JX ag_rnP := by
  refine aGho_of ⟨rfl, rfl⟩ ?_
  intro p σ ρ hH hX hA hM0
  have hG := aAG_of hA.1 (fun i e v he hv => (hA.2 i e v he hv).1)
  clear hA
  obtain ⟨v0, v1, v2, rfl, g0, g1, g2⟩ := rA_3 hG
  clear hG
  obtain ⟨x0, rfl, b0, d0⟩ := rG_ref (by decide) g0
  obtain ⟨x1, rfl, b1, d1⟩ := aG_int g1
  dsimp only at b1 d1
  obtain ⟨x2, rfl, b2, d2⟩ := aG_int g2
  dsimp only at b2 d2
  obtain ⟨m1, m2, m3, m4⟩ := hM0
  obtain ⟨T, hT⟩ := rTe_ex hH b0 d0
  obtain ⟨a0, c0, fs0, w0, e1, s0, t0, e4⟩ := m1 (0, 5, 1) (List.mem_of_getElem? (i := 0) rfl)
  obtain rfl : x0 = a0 := Sum.inl.inj (Option.some.inj (Sum.inr.inj (Sum.inr.inj (Option.some.inj (show some (rR x0) = some _ from e1)))))
  obtain rfl : rI x1 = w0 := Option.some.inj (show some (rI x1) = some w0 from e4)
  clear e1 e4
  obtain ⟨a1, c1, fs1, w1, e1, s1, t1, e4⟩ := m1 (0, 6, 2) (List.mem_of_getElem? (i := 1) rfl)
  obtain rfl : x0 = a1 := Sum.inl.inj (Option.some.inj (Sum.inr.inj (Sum.inr.inj (Option.some.inj (show some (rR x0) = some _ from e1)))))
  obtain rfl : rI x2 = w1 := Option.some.inj (show some (rI x2) = some w1 from e4)
  clear e1 e4
  have f0 : rB3 N K n p 367 [rR x0] σ := by
    obtain ⟨w, e6, e7⟩ := m4 (5873, [0]) (List.mem_of_getElem? (i := 0) rfl)
    obtain rfl : [rR x0] = w := Option.some.inj (show some [rR x0] = some w from e6)
    exact (rF_b (r := 5873) (by decide) rfl).mp e7
  have f0 := ro3_367.mp f0
  clear m1 m2 m3 m4
  obtain ⟨g9, h9, o1, o2, ⟨C, y, hY, k1, k2⟩, ⟨pa, mo, u9, z, cc, v, p1, p2, p3, p4, p5, ⟨p6, p7, p8⟩, p10, p11, p12⟩⟩ := f0
  cases rOb_u o1 ⟨b0, d0, _, _, s0, t0⟩
  cases rOb_u o2 ⟨b0, d0, _, _, s1, t1⟩
  have q0 : rB3 N K n ((rPo3 pa mo u9 x2.toInt, none) : rP) 400 [rR x0] σ := ro3_400.mpr (by
    exact ⟨rfl, p4⟩)
  have q1 : rB3 N K n ((rPo3 pa mo u9 x2.toInt, none) : rP) 220 [rR x0] σ := ro3_220.mpr (by
    exact ⟨v, p10, p11, p12⟩)
  have q2 : rB3 N K n ((rPo3 pa mo u9 x2.toInt, none) : rP) 462 [rR x0, rI x1, rI x2] σ := ro3_462.mpr (by
    exact ⟨rfl, pa, mo, u9, ⟨p1, p2, z, p3⟩, rfl⟩)
  have q3 : rB3 N K n ((rPo3 pa mo u9 x2.toInt, none) : rP) 463 [rR x0] σ := ro3_463.mpr (by
    exact ⟨cc, p6, p7, p8⟩)
  have q4 : rB3 N K n ((rPo3 pa mo u9 x2.toInt, none) : rP) 24 [] σ := ro3_24.mpr (by
    exact p5)
  have q5 : rB3 N K n ((rPo3 pa mo u9 x2.toInt, none) : rP) 241 [rR x0, rI x1, rI x2] σ := ro3_241.mpr (by
    exact ⟨C, y, hY, k1, k2⟩)
  exact ⟨((rPo3 pa mo u9 x2.toInt, none) : rP), fun h => (by cases h), ⟨(fun q h => by cases h), fun q h => (by cases h), (fun f h => by cases h), (aAllc ⟨_, rfl, (rF_b (r := 6401) (by decide) rfl).mpr q0⟩ (aAllc ⟨_, rfl, (rF_b (r := 3521) (by decide) rfl).mpr q1⟩ (aAllc ⟨_, rfl, (rF_b (r := 7395) (by decide) rfl).mpr q2⟩ (aAllc ⟨_, rfl, (rF_b (r := 7409) (by decide) rfl).mpr q3⟩ (aAllc ⟨_, rfl, (rF_b (r := 384) (by decide) rfl).mpr q4⟩ (aAllc ⟨_, rfl, (rF_b (r := 3859) (by decide) rfl).mpr q5⟩ (fun f h => by cases h)))))))⟩, [], List.mem_cons_self, fun f h => (by cases h)⟩
theorem rw_rnQ {N : Int} {K : Nat → Nat} {n : Nat} {JX : (Nat → jcell) → Prop} : aGho (rH N K n) fa_T K n JX ag_rnQ := by
  refine aGho_of ⟨rfl, rfl⟩ ?_
  intro p σ ρ hH hX hA hM0
  have hG := aAG_of hA.1 (fun i e v he hv => (hA.2 i e v he hv).1)
  clear hA
  obtain ⟨v0, v1, v2, rfl, g0, g1, g2⟩ := rA_3 hG
  clear hG
  obtain ⟨x0, rfl, b0, d0⟩ := rG_ref (by decide) g0
  obtain ⟨x1, rfl, b1, d1⟩ := aG_int g1
  dsimp only at b1 d1
  obtain ⟨x2, rfl, b2, d2⟩ := aG_int g2
  dsimp only at b2 d2
  obtain ⟨m1, m2, m3, m4⟩ := hM0
  obtain ⟨T, hT⟩ := rTe_ex hH b0 d0
  obtain ⟨a0, c0, fs0, w0, e1, s0, t0, e4⟩ := m1 (0, 5, 1) (List.mem_of_getElem? (i := 0) rfl)
  obtain rfl : x0 = a0 := Sum.inl.inj (Option.some.inj (Sum.inr.inj (Sum.inr.inj (Option.some.inj (show some (rR x0) = some _ from e1)))))
  obtain rfl : rI x1 = w0 := Option.some.inj (show some (rI x1) = some w0 from e4)
  clear e1 e4
  obtain ⟨a1, c1, fs1, w1, e1, s1, t1, e4⟩ := m1 (0, 6, 2) (List.mem_of_getElem? (i := 1) rfl)
  obtain rfl : x0 = a1 := Sum.inl.inj (Option.some.inj (Sum.inr.inj (Sum.inr.inj (Option.some.inj (show some (rR x0) = some _ from e1)))))
  obtain rfl : rI x2 = w1 := Option.some.inj (show some (rI x2) = some w1 from e4)
  clear e1 e4
  have f0 : rB3 N K n p 400 [rR x0] σ := by
    obtain ⟨w, e6, e7⟩ := m4 (6401, [0]) (List.mem_of_getElem? (i := 0) rfl)
    obtain rfl : [rR x0] = w := Option.some.inj (show some [rR x0] = some w from e6)
    exact (rF_b (r := 6401) (by decide) rfl).mp e7
  obtain ⟨hp, hR⟩ := ro3_400.mp f0
  obtain rfl := rMg_u hT hR.1
  have f1 : rB3 N K n p 220 [rR x0] σ := by
    obtain ⟨w, e6, e7⟩ := m4 (3521, [0]) (List.mem_of_getElem? (i := 1) rfl)
    obtain rfl : [rR x0] = w := Option.some.inj (show some [rR x0] = some w from e6)
    exact (rF_b (r := 3521) (by decide) rfl).mp e7
  have f1 := ro3_220.mp f1
  have f2 : rB3 N K n p 462 [rR x0, rI x1, rI x2] σ := by
    obtain ⟨w, e6, e7⟩ := m4 (7395, [0, 1, 2]) (List.mem_of_getElem? (i := 2) rfl)
    obtain rfl : [rR x0, rI x1, rI x2] = w := Option.some.inj (show some [rR x0, rI x1, rI x2] = some w from e6)
    exact (rF_b (r := 7395) (by decide) rfl).mp e7
  have f2 := ro3_462.mp f2
  have f3 : rB3 N K n p 463 [rR x0] σ := by
    obtain ⟨w, e6, e7⟩ := m4 (7409, [0]) (List.mem_of_getElem? (i := 3) rfl)
    obtain rfl : [rR x0] = w := Option.some.inj (show some [rR x0] = some w from e6)
    exact (rF_b (r := 7409) (by decide) rfl).mp e7
  have f3 := ro3_463.mp f3
  have f4 : rB3 N K n p 24 [] σ := by
    obtain ⟨w, e6, e7⟩ := m4 (384, []) (List.mem_of_getElem? (i := 4) rfl)
    obtain rfl : [] = w := Option.some.inj (show some [] = some w from e6)
    exact (rF_b (r := 384) (by decide) rfl).mp e7
  have f4 := ro3_24.mp f4
  have f5 : rB3 N K n p 241 [rR x0, rI x1, rI x2] σ := by
    obtain ⟨w, e6, e7⟩ := m4 (3859, [0, 1, 2]) (List.mem_of_getElem? (i := 5) rfl)
    obtain rfl : [rR x0, rI x1, rI x2] = w := Option.some.inj (show some [rR x0, rI x1, rI x2] = some w from e6)
    exact (rF_b (r := 3859) (by decide) rfl).mp e7
  obtain ⟨C, y, hY, f5⟩ := ro3_241.mp f5
  clear m1 m2 m3 m4
  have q0 : rB3 N K n p 367 [rR x0] σ := ro3_367.mpr (by
    obtain ⟨v, ov, v0, v1⟩ := f1
    obtain ⟨-, pa, mo, q0, ⟨p1, p2, z, p3⟩, k3⟩ := f2
    obtain ⟨cc, c1, c2, c3⟩ := f3
    refine ⟨x1, x2, ⟨b0, d0, _, _, s0, t0⟩, ⟨b0, d0, _, _, s1, t1⟩, ⟨C, y, hY, f5.1, f5.2⟩, pa, mo, q0, z, cc, v, p1, p2, p3, ?_, ?_, ⟨c1, c2, ?_⟩, ov, v0, v1⟩
    · rw [← k3]; exact hR
    · rw [← k3]; exact f4
    · rw [← k3]; exact c3)
  exact ⟨p, fun _ => rfl, ⟨(fun q h => by cases h), fun q h => (by cases h), (fun f h => by cases h), (aAllc ⟨_, rfl, (rF_b (r := 5873) (by decide) rfl).mpr q0⟩ (fun f h => by cases h))⟩, [], List.mem_cons_self, fun f h => (by cases h)⟩
theorem rw_rnM {N : Int} {K : Nat → Nat} {n : Nat} {JX : (Nat → jcell) → Prop} : aGho (rH N K n) fa_T K n JX ag_rnM := by
  refine aGho_of ⟨rfl, rfl⟩ ?_
  intro p σ ρ hH hX hA hM0
  have hG := aAG_of hA.1 (fun i e v he hv => (hA.2 i e v he hv).1)
  clear hA
  obtain ⟨v0, v1, v2, v3, v4, v5, rfl, g0, g1, g2, g3, g4, g5⟩ := rA_6 hG
  clear hG
  obtain ⟨x0, rfl, b0, d0⟩ := rG_ref (by decide) g0
  obtain ⟨x1, rfl, b1, d1⟩ := aG_int g1
  dsimp only at b1 d1
  obtain ⟨x2, rfl, b2, d2⟩ := aG_int g2
  dsimp only at b2 d2
  obtain ⟨x3, rfl, b3, d3⟩ := aG_int g3
  dsimp only at b3 d3
  obtain ⟨x4, rfl, b4, d4⟩ := aG_int g4
  dsimp only at b4 d4
  obtain ⟨x5, rfl, b5, d5⟩ := rG_ref (by decide) g5
  obtain ⟨m1, m2, m3, m4⟩ := hM0
  obtain ⟨T, hT⟩ := rTe_ex hH b0 d0
  obtain ⟨a0, c0, fs0, w0, e1, s0, t0, e4⟩ := m1 (0, 9, 5) (List.mem_of_getElem? (i := 0) rfl)
  obtain rfl : x0 = a0 := Sum.inl.inj (Option.some.inj (Sum.inr.inj (Sum.inr.inj (Option.some.inj (show some (rR x0) = some _ from e1)))))
  obtain rfl : rR x5 = w0 := Option.some.inj (show some (rR x5) = some w0 from e4)
  clear e1 e4
  obtain ⟨a, mc0, ty0, gc0, ic0, e1, sc0, jc0, e4, e5⟩ := m2 (5, ([(1, 301), (2, 1)], 0), 3) (List.mem_of_getElem? (i := 0) rfl)
  obtain rfl : x5 = a := Sum.inl.inj (Option.some.inj (Sum.inr.inj (Sum.inr.inj (Option.some.inj (show some (rR x5) = some _ from e1)))))
  obtain ⟨gc0, rfl⟩ : ∃ g, gc0 = .inl g := by
    rcases gc0 with g | g
    · exact ⟨g, rfl⟩
    · exact absurd (show some (rI x3) = some (.inr (.inl (g ic0))) from e5) (fun h => by cases h)
  have sc0 : σ x5 = .inl (ty0, mc0, .inl gc0) := sc0
  have ec0 : x3 = gc0 ic0 := Sum.inl.inj (Option.some.inj (show some (rI x3) = some _ from e5))
  have kc0 : (ic0 : Int) = (301 * x1.toInt + (1 * x2.toInt + 0)) + 0 := by
    obtain ⟨z, e6, e7⟩ := e4
    obtain rfl : (301 * x1.toInt + (1 * x2.toInt + 0)) = z := Option.some.inj (show some (301 * x1.toInt + (1 * x2.toInt + 0)) = some z from e6)
    exact e7
  clear e1 e4 e5
  have f0 : rB3 N K n p 242 [rR x0, rI x1, rI x2, rI x4] σ := by
    obtain ⟨w, e6, e7⟩ := m4 (3876, [0, 1, 2, 4]) (List.mem_of_getElem? (i := 0) rfl)
    obtain rfl : [rR x0, rI x1, rI x2, rI x4] = w := Option.some.inj (show some [rR x0, rI x1, rI x2, rI x4] = some w from e6)
    exact (rF_b (r := 3876) (by decide) rfl).mp e7
  obtain ⟨C, y, hY, f0⟩ := ro3_242.mp f0
  clear m1 m2 m3 m4
  have y0 : y.2.1 x2.toInt = x3.toInt := rSc_c hY.1.2.1 s0 t0 sc0 ec0 (by omega)
  have r0 : 0 ≤ (1 * x3.toInt + 0) + 0 := by
    obtain ⟨L, k1, k2, k3⟩ := f0
    have hc : 1 ≤ x2.toInt ∧ x2.toInt ≤ C := by
      match L, k1, k2 with
      | [], k1, _ => have e : x2.toInt = -1 := k1; omega
      | d :: r, k1, k2 =>
        have e : x2.toInt = d := k1.1
        have := k2 d List.mem_cons_self
        omega
    have h := (hY.2.2.2.2.1 x2.toInt hc.1 hc.2).1.1
    rw [y0] at h
    omega
  exact ⟨p, fun _ => rfl, ⟨(fun q h => by cases h), fun q h => (by cases h), (aAllc ⟨_, rfl, r0⟩ (fun f h => by cases h)), (fun f h => by cases h)⟩, [], List.mem_cons_self, fun f h => (by cases h)⟩
theorem rw_rnN1 {N : Int} {K : Nat → Nat} {n : Nat} {JX : (Nat → jcell) → Prop} : aGho (rH N K n) fa_T K n JX ag_rnN1 := by
  refine aGho_of ⟨rfl, rfl⟩ ?_
  intro p σ ρ hH hX hA hM0
  have hG := aAG_of hA.1 (fun i e v he hv => (hA.2 i e v he hv).1)
  clear hA
  obtain ⟨v0, v1, v2, v3, v4, v5, rfl, g0, g1, g2, g3, g4, g5⟩ := rA_6 hG
  clear hG
  obtain ⟨x0, rfl, b0, d0⟩ := rG_ref (by decide) g0
  obtain ⟨x1, rfl, b1, d1⟩ := aG_int g1
  dsimp only at b1 d1
  obtain ⟨x2, rfl, b2, d2⟩ := aG_int g2
  dsimp only at b2 d2
  obtain ⟨x3, rfl, b3, d3⟩ := aG_int g3
  dsimp only at b3 d3
  obtain ⟨x4, rfl, b4, d4⟩ := aG_int g4
  dsimp only at b4 d4
  obtain ⟨x5, rfl, b5, d5⟩ := rG_ref (by decide) g5
  obtain ⟨m1, m2, m3, m4⟩ := hM0
  obtain ⟨a0, c0, fs0, w0, e1, s0, t0, e4⟩ := m1 (0, 14, 5) (List.mem_of_getElem? (i := 0) rfl)
  obtain rfl : x0 = a0 := Sum.inl.inj (Option.some.inj (Sum.inr.inj (Sum.inr.inj (Option.some.inj (show some (rR x0) = some _ from e1)))))
  obtain rfl : rR x5 = w0 := Option.some.inj (show some (rR x5) = some w0 from e4)
  clear e1 e4
  obtain ⟨a, mc0, ty0, gc0, ic0, e1, sc0, jc0, e4, e5⟩ := m2 (5, ([(1, 1)], 0), 2) (List.mem_of_getElem? (i := 0) rfl)
  obtain rfl : x5 = a := Sum.inl.inj (Option.some.inj (Sum.inr.inj (Sum.inr.inj (Option.some.inj (show some (rR x5) = some _ from e1)))))
  obtain ⟨gc0, rfl⟩ : ∃ g, gc0 = .inl g := by
    rcases gc0 with g | g
    · exact ⟨g, rfl⟩
    · exact absurd (show some (rI x2) = some (.inr (.inl (g ic0))) from e5) (fun h => by cases h)
  have sc0 : σ x5 = .inl (ty0, mc0, .inl gc0) := sc0
  have ec0 : x2 = gc0 ic0 := Sum.inl.inj (Option.some.inj (show some (rI x2) = some _ from e5))
  have kc0 : (ic0 : Int) = (1 * x1.toInt + 0) + 0 := by
    obtain ⟨z, e6, e7⟩ := e4
    obtain rfl : (1 * x1.toInt + 0) = z := Option.some.inj (show some (1 * x1.toInt + 0) = some z from e6)
    exact e7
  clear e1 e4 e5
  have l0 : 0 ≤ (1 * x3.toInt + (-1 * x2.toInt + (-1 * x4.toInt + 0))) + 0 := by
    obtain ⟨z, e6, e7⟩ := m3 ([(3, 1), (2, -1), (4, -1)], 0) (List.mem_of_getElem? (i := 0) rfl)
    obtain rfl : (1 * x3.toInt + (-1 * x2.toInt + (-1 * x4.toInt + 0))) = z := Option.some.inj (show some (1 * x3.toInt + (-1 * x2.toInt + (-1 * x4.toInt + 0))) = some z from e6)
    exact e7
  clear m1 m2 m3 m4
  have q0 : rB3 N K n p 375 [rR x0, rI x1, rI x4] σ := ro3_375.mpr (by
    obtain ⟨g, rg⟩ := rRo_ex (ko := 55) (f := 14) (kr := 58) (len := 32768) hH rfl rfl rfl (by decide) b0 d0
    have e := rRo_c (i := ic0) rg s0 t0 sc0 ec0
    exact ⟨b1, g, rg, by rw [show x1.toInt.toNat = ic0 by omega, e]; omega⟩)
  exact ⟨p, fun _ => rfl, ⟨(fun q h => by cases h), fun q h => (by cases h), (fun f h => by cases h), (aAllc ⟨_, rfl, (rF_b (r := 6003) (by decide) rfl).mpr q0⟩ (fun f h => by cases h))⟩, [], List.mem_cons_self, fun f h => (by cases h)⟩
theorem rw_rnN2 {N : Int} {K : Nat → Nat} {n : Nat} {JX : (Nat → jcell) → Prop} : aGho (rH N K n) fa_T K n JX ag_rnN2 := by
  refine aGho_of ⟨rfl, rfl⟩ ?_
  intro p σ ρ hH hX hA hM0
  have hG := aAG_of hA.1 (fun i e v he hv => (hA.2 i e v he hv).1)
  clear hA
  obtain ⟨v0, v1, v2, v3, v4, rfl, g0, g1, g2, g3, g4⟩ := rA_5 hG
  clear hG
  obtain ⟨x0, rfl, b0, d0⟩ := rG_ref (by decide) g0
  obtain ⟨x1, rfl, b1, d1⟩ := aG_int g1
  dsimp only at b1 d1
  obtain ⟨x2, rfl, b2, d2⟩ := aG_int g2
  dsimp only at b2 d2
  obtain ⟨x3, rfl, b3, d3⟩ := aG_int g3
  dsimp only at b3 d3
  obtain ⟨x4, rfl, b4, d4⟩ := rG_ref (by decide) g4
  obtain ⟨m1, m2, m3, m4⟩ := hM0
  obtain ⟨a0, c0, fs0, w0, e1, s0, t0, e4⟩ := m1 (0, 14, 4) (List.mem_of_getElem? (i := 0) rfl)
  obtain rfl : x0 = a0 := Sum.inl.inj (Option.some.inj (Sum.inr.inj (Sum.inr.inj (Option.some.inj (show some (rR x0) = some _ from e1)))))
  obtain rfl : rR x4 = w0 := Option.some.inj (show some (rR x4) = some w0 from e4)
  clear e1 e4
  obtain ⟨a, mc0, ty0, gc0, ic0, e1, sc0, jc0, e4, e5⟩ := m2 (4, ([(1, 1)], 0), 2) (List.mem_of_getElem? (i := 0) rfl)
  obtain rfl : x4 = a := Sum.inl.inj (Option.some.inj (Sum.inr.inj (Sum.inr.inj (Option.some.inj (show some (rR x4) = some _ from e1)))))
  obtain ⟨gc0, rfl⟩ : ∃ g, gc0 = .inl g := by
    rcases gc0 with g | g
    · exact ⟨g, rfl⟩
    · exact absurd (show some (rI x2) = some (.inr (.inl (g ic0))) from e5) (fun h => by cases h)
  have sc0 : σ x4 = .inl (ty0, mc0, .inl gc0) := sc0
  have ec0 : x2 = gc0 ic0 := Sum.inl.inj (Option.some.inj (show some (rI x2) = some _ from e5))
  have kc0 : (ic0 : Int) = (1 * x1.toInt + 0) + 0 := by
    obtain ⟨z, e6, e7⟩ := e4
    obtain rfl : (1 * x1.toInt + 0) = z := Option.some.inj (show some (1 * x1.toInt + 0) = some z from e6)
    exact e7
  clear e1 e4 e5
  have f0 : rB3 N K n p 375 [rR x0, rI x1, rI x3] σ := by
    obtain ⟨w, e6, e7⟩ := m4 (6003, [0, 1, 3]) (List.mem_of_getElem? (i := 0) rfl)
    obtain rfl : [rR x0, rI x1, rI x3] = w := Option.some.inj (show some [rR x0, rI x1, rI x3] = some w from e6)
    exact (rF_b (r := 6003) (by decide) rfl).mp e7
  have f0 := ro3_375.mp f0
  clear m1 m2 m3 m4
  have r0 : 0 ≤ (-1 * x2.toInt + (-1 * x3.toInt + 0)) + 65536 := by
    obtain ⟨k0, g, r, e⟩ := f0
    have e2 := rRo_c (i := ic0) r s0 t0 sc0 ec0
    rw [show x1.toInt.toNat = ic0 by omega] at e
    omega
  exact ⟨p, fun _ => rfl, ⟨(fun q h => by cases h), fun q h => (by cases h), (aAllc ⟨_, rfl, r0⟩ (fun f h => by cases h)), (fun f h => by cases h)⟩, [], List.mem_cons_self, fun f h => (by cases h)⟩
theorem rw_rnB {N : Int} {K : Nat → Nat} {n : Nat} {JX : (Nat → jcell) → Prop} : aGho (rH N K n) fa_T K n JX ag_rnB := by
  refine aGho_of ⟨rfl, rfl⟩ ?_
  intro p σ ρ hH hX hA hM0
  have hG := aAG_of hA.1 (fun i e v he hv => (hA.2 i e v he hv).1)
  clear hA
  obtain ⟨v0, v1, v2, rfl, g0, g1, g2⟩ := rA_3 hG
  clear hG
  obtain ⟨x0, rfl, b0, d0⟩ := rG_ref (by decide) g0
  obtain ⟨x1, rfl, b1, d1⟩ := aG_int g1
  dsimp only at b1 d1
  obtain ⟨x2, rfl, b2, d2⟩ := aG_int g2
  dsimp only at b2 d2
  obtain ⟨m1, m2, m3, m4⟩ := hM0
  obtain ⟨T, hT⟩ := rTe_ex hH b0 d0
  obtain ⟨a0, c0, fs0, w0, e1, s0, t0, e4⟩ := m1 (0, 5, 1) (List.mem_of_getElem? (i := 0) rfl)
  obtain rfl : x0 = a0 := Sum.inl.inj (Option.some.inj (Sum.inr.inj (Sum.inr.inj (Option.some.inj (show some (rR x0) = some _ from e1)))))
  obtain rfl : rI x1 = w0 := Option.some.inj (show some (rI x1) = some w0 from e4)
  clear e1 e4
  obtain ⟨a1, c1, fs1, w1, e1, s1, t1, e4⟩ := m1 (0, 6, 2) (List.mem_of_getElem? (i := 1) rfl)
  obtain rfl : x0 = a1 := Sum.inl.inj (Option.some.inj (Sum.inr.inj (Sum.inr.inj (Option.some.inj (show some (rR x0) = some _ from e1)))))
  obtain rfl : rI x2 = w1 := Option.some.inj (show some (rI x2) = some w1 from e4)
  clear e1 e4
  have f0 : rB3 N K n p 367 [rR x0] σ := by
    obtain ⟨w, e6, e7⟩ := m4 (5873, [0]) (List.mem_of_getElem? (i := 0) rfl)
    obtain rfl : [rR x0] = w := Option.some.inj (show some [rR x0] = some w from e6)
    exact (rF_b (r := 5873) (by decide) rfl).mp e7
  have f0 := ro3_367.mp f0
  clear m1 m2 m3 m4
  have q0 : rB3 N K n p 241 [rR x0, rI x1, rI x2] σ := ro3_241.mpr (by
    obtain ⟨g9, h9, o1, o2, ⟨C, y, hY, k1, k2⟩, -⟩ := f0
    cases rOb_u o1 ⟨b0, d0, _, _, s0, t0⟩
    cases rOb_u o2 ⟨b0, d0, _, _, s1, t1⟩
    exact ⟨C, y, hY, k1, k2⟩)
  exact ⟨p, fun _ => rfl, ⟨(fun q h => by cases h), fun q h => (by cases h), (fun f h => by cases h), (aAllc ⟨_, rfl, (rF_b (r := 3859) (by decide) rfl).mpr q0⟩ (fun f h => by cases h))⟩, [], List.mem_cons_self, fun f h => (by cases h)⟩
theorem rw_rnT {N : Int} {K : Nat → Nat} {n : Nat} {JX : (Nat → jcell) → Prop} : aGho (rH N K n) fa_T K n JX ag_rnT := by
  refine aGho_of ⟨rfl, rfl⟩ ?_
  intro p σ ρ hH hX hA hM0
  have hG := aAG_of hA.1 (fun i e v he hv => (hA.2 i e v he hv).1)
  clear hA
  obtain ⟨v0, rfl, g0⟩ := rA_1 hG
  clear hG
  obtain ⟨x0, rfl, b0, d0⟩ := aG_int g0
  dsimp only at b0 d0
  obtain ⟨m1, m2, m3, m4⟩ := hM0
  clear m1 m2 m3 m4
  have hd : (0 ≤ (-1 * x0.toInt + 0) + 0) ∨ (0 ≤ (1 * x0.toInt + 0) + -1) := by
    omega
  rcases hd with w0 | w0
  · exact ⟨p, fun _ => rfl, ⟨(fun q h => by cases h), fun q h => (by cases h), (fun f h => by cases h), (fun f h => by cases h)⟩, _, List.mem_of_getElem? (i := 0) rfl, (aAllc ⟨_, rfl, w0⟩ (fun f h => by cases h))⟩
  · exact ⟨p, fun _ => rfl, ⟨(fun q h => by cases h), fun q h => (by cases h), (fun f h => by cases h), (fun f h => by cases h)⟩, _, List.mem_of_getElem? (i := 1) rfl, (aAllc ⟨_, rfl, w0⟩ (fun f h => by cases h))⟩
theorem rw_rn0 {N : Int} {K : Nat → Nat} {n : Nat} {JX : (Nat → jcell) → Prop} : aGho (rH N K n) fa_T K n JX ag_rn0 := by
  refine aGho_of ⟨rfl, rfl⟩ ?_
  intro p σ ρ hH hX hA hM0
  have hG := aAG_of hA.1 (fun i e v he hv => (hA.2 i e v he hv).1)
  clear hA
  obtain ⟨v0, rfl, g0⟩ := rA_1 hG
  clear hG
  obtain ⟨x0, rfl, b0, d0⟩ := aG_int g0
  dsimp only at b0 d0
  obtain ⟨m1, m2, m3, m4⟩ := hM0
  have l0 : 0 ≤ (1 * x0.toInt + 0) + 0 := by
    obtain ⟨z, e6, e7⟩ := m3 ([(0, 1)], 0) (List.mem_of_getElem? (i := 0) rfl)
    obtain rfl : (1 * x0.toInt + 0) = z := Option.some.inj (show some (1 * x0.toInt + 0) = some z from e6)
    exact e7
  clear m1 m2 m3 m4
  have r0 : 0 ≤ (1 * x0.toInt + 0) + 0 := by
    omega
  exact ⟨p, fun _ => rfl, ⟨(fun q h => by cases h), fun q h => (by cases h), (aAllc ⟨_, rfl, r0⟩ (fun f h => by cases h)), (fun f h => by cases h)⟩, [], List.mem_cons_self, fun f h => (by cases h)⟩
theorem rw_rgV0 {N : Int} {K : Nat → Nat} {n : Nat} {JX : (Nat → jcell) → Prop} : aGho (rH N K n) fa_T K n JX ag_rgV0 := by
  refine aGho_of ⟨rfl, rfl⟩ ?_
  intro p σ ρ hH hX hA hM0
  have hG := aAG_of hA.1 (fun i e v he hv => (hA.2 i e v he hv).1)
  clear hA
  obtain ⟨v0, v1, rfl, g0, g1⟩ := rA_2 hG
  clear hG
  obtain ⟨x0, rfl, b0, d0⟩ := rG_ref (by decide) g0
  obtain ⟨x1, rfl, b1, d1⟩ := aG_int g1
  dsimp only at b1 d1
  obtain ⟨m1, m2, m3, m4⟩ := hM0
  obtain ⟨M, hM⟩ := rMe_ex hH b0 d0
  clear m1 m2 m3 m4
  have hZ : ∀ s, ¬ (0 ≤ s ∧ s ≤ 63) → M s = 0 := rZ_of hM
  have q0 : rB3 N K n p 377 [rR x0, rI x1] σ := ro3_377.mpr ⟨_, hM, by
    intro s hs
    exact Or.inl (hZ s (by omega))⟩
  exact ⟨p, fun _ => rfl, ⟨(fun q h => by cases h), fun q h => (by cases h), (fun f h => by cases h), (aAllc ⟨_, rfl, (rF_b (r := 6034) (by decide) rfl).mpr q0⟩ (fun f h => by cases h))⟩, [], List.mem_cons_self, fun f h => (by cases h)⟩
theorem rw_rgV1 {N : Int} {K : Nat → Nat} {n : Nat} {JX : (Nat → jcell) → Prop} : aGho (rH N K n) fa_T K n JX ag_rgV1 := by
  refine aGho_of ⟨rfl, rfl⟩ ?_
  intro p σ ρ hH hX hA hM0
  have hG := aAG_of hA.1 (fun i e v he hv => (hA.2 i e v he hv).1)
  clear hA
  obtain ⟨v0, v1, v2, rfl, g0, g1, g2⟩ := rA_3 hG
  clear hG
  obtain ⟨x0, rfl, b0, d0⟩ := rG_ref (by decide) g0
  obtain ⟨x1, rfl, b1, d1⟩ := aG_int g1
  dsimp only at b1 d1
  obtain ⟨x2, rfl, b2, d2⟩ := aG_int g2
  dsimp only at b2 d2
  obtain ⟨m1, m2, m3, m4⟩ := hM0
  obtain ⟨M, hM⟩ := rMe_ex hH b0 d0
  have f0 : rB3 N K n p 377 [rR x0, rI x1] σ := by
    obtain ⟨w, e6, e7⟩ := m4 (6034, [0, 1]) (List.mem_of_getElem? (i := 0) rfl)
    obtain rfl : [rR x0, rI x1] = w := Option.some.inj (show some [rR x0, rI x1] = some w from e6)
    exact (rF_b (r := 6034) (by decide) rfl).mp e7
  obtain ⟨M9, h9, f0⟩ := ro3_377.mp f0
  obtain rfl := rMg_u hM h9
  clear h9
  clear m1 m2 m3 m4
  have q0 : rB3 N K n p 378 [rR x0, rI x1, rI x2] σ := ro3_378.mpr ⟨_, hM, by
    intro s hs
    exact f0 s (by omega)⟩
  exact ⟨p, fun _ => rfl, ⟨(fun q h => by cases h), fun q h => (by cases h), (fun f h => by cases h), (aAllc ⟨_, rfl, (rF_b (r := 6051) (by decide) rfl).mpr q0⟩ (fun f h => by cases h))⟩, [], List.mem_cons_self, fun f h => (by cases h)⟩
theorem rw_rgV2 {N : Int} {K : Nat → Nat} {n : Nat} {JX : (Nat → jcell) → Prop} : aGho (rH N K n) fa_T K n JX ag_rgV2 := by
  refine aGho_of ⟨rfl, rfl⟩ ?_
  intro p σ ρ hH hX hA hM0
  have hG := aAG_of hA.1 (fun i e v he hv => (hA.2 i e v he hv).1)
  clear hA
  obtain ⟨v0, v1, v2, v3, rfl, g0, g1, g2, g3⟩ := rA_4 hG
  clear hG
  obtain ⟨x0, rfl, b0, d0⟩ := rG_ref (by decide) g0
  obtain ⟨x1, rfl, b1, d1⟩ := aG_int g1
  dsimp only at b1 d1
  obtain ⟨x2, rfl, b2, d2⟩ := aG_int g2
  dsimp only at b2 d2
  obtain ⟨x3, rfl, b3, d3⟩ := aG_int g3
  dsimp only at b3 d3
  obtain ⟨m1, m2, m3, m4⟩ := hM0
  obtain ⟨M, hM⟩ := rMe_ex hH b0 d0
  have f0 : rB3 N K n p 378 [rR x0, rI x1, rI x2] σ := by
    obtain ⟨w, e6, e7⟩ := m4 (6051, [0, 1, 2]) (List.mem_of_getElem? (i := 0) rfl)
    obtain rfl : [rR x0, rI x1, rI x2] = w := Option.some.inj (show some [rR x0, rI x1, rI x2] = some w from e6)
    exact (rF_b (r := 6051) (by decide) rfl).mp e7
  obtain ⟨M9, h9, f0⟩ := ro3_378.mp f0
  obtain rfl := rMg_u hM h9
  clear h9
  clear m1 m2 m3 m4
  have q0 : rB3 N K n p 379 [rR x0, rI x1, rI x2, rI x3] σ := ro3_379.mpr ⟨_, hM, by
    intro s hs
    exact f0 s (by omega)⟩
  exact ⟨p, fun _ => rfl, ⟨(fun q h => by cases h), fun q h => (by cases h), (fun f h => by cases h), (aAllc ⟨_, rfl, (rF_b (r := 6068) (by decide) rfl).mpr q0⟩ (fun f h => by cases h))⟩, [], List.mem_cons_self, fun f h => (by cases h)⟩
theorem rw_rgV3 {N : Int} {K : Nat → Nat} {n : Nat} {JX : (Nat → jcell) → Prop} : aGho (rH N K n) fa_T K n JX ag_rgV3 := by
  refine aGho_of ⟨rfl, rfl⟩ ?_
  intro p σ ρ hH hX hA hM0
  have hG := aAG_of hA.1 (fun i e v he hv => (hA.2 i e v he hv).1)
  clear hA
  obtain ⟨v0, v1, v2, v3, v4, v5, v6, rfl, g0, g1, g2, g3, g4, g5, g6⟩ := rA_7 hG
  clear hG
  obtain ⟨x0, rfl, b0, d0⟩ := rG_ref (by decide) g0
  obtain ⟨x1, rfl, b1, d1⟩ := rG_ref (by decide) g1
  obtain ⟨x2, rfl, b2, d2⟩ := aG_int g2
  dsimp only at b2 d2
  obtain ⟨x3, rfl, b3, d3⟩ := aG_int g3
  dsimp only at b3 d3
  obtain ⟨x4, rfl, b4, d4⟩ := aG_int g4
  dsimp only at b4 d4
  obtain ⟨x5, rfl, b5, d5⟩ := aG_int g5
  dsimp only at b5 d5
  obtain ⟨x6, rfl, b6, d6⟩ := aG_int g6
  dsimp only at b6 d6
  obtain ⟨m1, m2, m3, m4⟩ := hM0
  obtain ⟨M, hM⟩ := rMe_ex hH b0 d0
  obtain ⟨a0, c0, fs0, w0, e1, s0, t0, e4⟩ := m1 (0, 2, 1) (List.mem_of_getElem? (i := 0) rfl)
  obtain rfl : x0 = a0 := Sum.inl.inj (Option.some.inj (Sum.inr.inj (Sum.inr.inj (Option.some.inj (show some (rR x0) = some _ from e1)))))
  obtain rfl : rR x1 = w0 := Option.some.inj (show some (rR x1) = some w0 from e4)
  clear e1 e4
  have l0 : 0 ≤ (1 * x5.toInt + (-8 * x2.toInt + (-1 * x3.toInt + (-1 * x4.toInt + 0)))) + 0 := by
    obtain ⟨z, e6, e7⟩ := m3 ([(5, 1), (2, -8), (3, -1), (4, -1)], 0) (List.mem_of_getElem? (i := 0) rfl)
    obtain rfl : (1 * x5.toInt + (-8 * x2.toInt + (-1 * x3.toInt + (-1 * x4.toInt + 0)))) = z := Option.some.inj (show some (1 * x5.toInt + (-8 * x2.toInt + (-1 * x3.toInt + (-1 * x4.toInt + 0)))) = some z from e6)
    exact e7
  have l1 : 0 ≤ (-1 * x5.toInt + (8 * x2.toInt + (1 * x3.toInt + (1 * x4.toInt + 0)))) + 0 := by
    obtain ⟨z, e6, e7⟩ := m3 ([(5, -1), (2, 8), (3, 1), (4, 1)], 0) (List.mem_of_getElem? (i := 1) rfl)
    obtain rfl : (-1 * x5.toInt + (8 * x2.toInt + (1 * x3.toInt + (1 * x4.toInt + 0)))) = z := Option.some.inj (show some (-1 * x5.toInt + (8 * x2.toInt + (1 * x3.toInt + (1 * x4.toInt + 0)))) = some z from e6)
    exact e7
  have l2 : 0 ≤ (-1 * x3.toInt + (-1 * x4.toInt + 0)) + 7 := by
    obtain ⟨z, e6, e7⟩ := m3 ([(3, -1), (4, -1)], 7) (List.mem_of_getElem? (i := 2) rfl)
    obtain rfl : (-1 * x3.toInt + (-1 * x4.toInt + 0)) = z := Option.some.inj (show some (-1 * x3.toInt + (-1 * x4.toInt + 0)) = some z from e6)
    exact e7
  have f0 : rB3 N K n p 379 [rR x0, rI x2, rI x3, rI x4] σ := by
    obtain ⟨w, e6, e7⟩ := m4 (6068, [0, 2, 3, 4]) (List.mem_of_getElem? (i := 0) rfl)
    obtain rfl : [rR x0, rI x2, rI x3, rI x4] = w := Option.some.inj (show some [rR x0, rI x2, rI x3, rI x4] = some w from e6)
    exact (rF_b (r := 6068) (by decide) rfl).mp e7
  obtain ⟨M9, h9, f0⟩ := ro3_379.mp f0
  obtain rfl := rMg_u hM h9
  clear h9
  clear m1 m2 m3 m4
  have q0 : rB3 N K n p 380 [rR x0, rI x2, rI x3, rI x4] (jup σ x1 (jsto (σ x1) x5.toNatClampNeg x6)) := ro3_380.mpr ⟨_, rMg_up hM s0 t0 (by omega) (by omega), by
    intro s hs
    show rUp M x5.toInt x6.toInt s = 0 ∨ (0 ≤ s ∧ s ≤ 63 ∧ ((1 ≤ rUp M x5.toInt x6.toInt s ∧ rUp M x5.toInt x6.toInt s ≤ 6) ∨ (9 ≤ rUp M x5.toInt x6.toInt s ∧ rUp M x5.toInt x6.toInt s ≤ 14)))
    unfold rUp
    by_cases cs : s = x5.toInt
    · rw [if_pos cs]
      omega
    · rw [if_neg cs]
      exact f0 s (by omega)⟩
  exact ⟨p, fun _ => rfl, ⟨(fun q h => by cases h), fun q h => (by cases h), (fun f h => by cases h), (aAllc ⟨_, rfl, rF_p (r := 6084) (by decide) (by decide) q0⟩ (fun f h => by cases h))⟩, [], List.mem_cons_self, fun f h => (by cases h)⟩
theorem rw_rgV4 {N : Int} {K : Nat → Nat} {n : Nat} {JX : (Nat → jcell) → Prop} : aGho (rH N K n) fa_T K n JX ag_rgV4 := by
  refine aGho_of ⟨rfl, rfl⟩ ?_
  intro p σ ρ hH hX hA hM0
  have hG := aAG_of hA.1 (fun i e v he hv => (hA.2 i e v he hv).1)
  clear hA
  obtain ⟨v0, v1, v2, v3, v4, rfl, g0, g1, g2, g3, g4⟩ := rA_5 hG
  clear hG
  obtain ⟨x0, rfl, b0, d0⟩ := rG_ref (by decide) g0
  obtain ⟨x1, rfl, b1, d1⟩ := aG_int g1
  dsimp only at b1 d1
  obtain ⟨x2, rfl, b2, d2⟩ := aG_int g2
  dsimp only at b2 d2
  obtain ⟨x3, rfl, b3, d3⟩ := aG_int g3
  dsimp only at b3 d3
  obtain ⟨x4, rfl, b4, d4⟩ := aG_int g4
  dsimp only at b4 d4
  obtain ⟨m1, m2, m3, m4⟩ := hM0
  obtain ⟨M, hM⟩ := rMe_ex hH b0 d0
  have l0 : 0 ≤ (1 * x4.toInt + (-1 * x3.toInt + 0)) + -1 := by
    obtain ⟨z, e6, e7⟩ := m3 ([(4, 1), (3, -1)], -1) (List.mem_of_getElem? (i := 0) rfl)
    obtain rfl : (1 * x4.toInt + (-1 * x3.toInt + 0)) = z := Option.some.inj (show some (1 * x4.toInt + (-1 * x3.toInt + 0)) = some z from e6)
    exact e7
  have l1 : 0 ≤ (-1 * x4.toInt + (1 * x3.toInt + 0)) + 1 := by
    obtain ⟨z, e6, e7⟩ := m3 ([(4, -1), (3, 1)], 1) (List.mem_of_getElem? (i := 1) rfl)
    obtain rfl : (-1 * x4.toInt + (1 * x3.toInt + 0)) = z := Option.some.inj (show some (-1 * x4.toInt + (1 * x3.toInt + 0)) = some z from e6)
    exact e7
  have f0 : rB3 N K n p 380 [rR x0, rI x1, rI x2, rI x3] σ := by
    obtain ⟨w, e6, e7⟩ := m4 (6084, [0, 1, 2, 3]) (List.mem_of_getElem? (i := 0) rfl)
    obtain rfl : [rR x0, rI x1, rI x2, rI x3] = w := Option.some.inj (show some [rR x0, rI x1, rI x2, rI x3] = some w from e6)
    exact (rF_b (r := 6084) (by decide) rfl).mp e7
  obtain ⟨M9, h9, f0⟩ := ro3_380.mp f0
  obtain rfl := rMg_u hM h9
  clear h9
  clear m1 m2 m3 m4
  have q0 : rB3 N K n p 379 [rR x0, rI x1, rI x2, rI x4] σ := ro3_379.mpr ⟨_, hM, by
    intro s hs
    exact f0 s (by omega)⟩
  exact ⟨p, fun _ => rfl, ⟨(fun q h => by cases h), fun q h => (by cases h), (fun f h => by cases h), (aAllc ⟨_, rfl, (rF_b (r := 6068) (by decide) rfl).mpr q0⟩ (fun f h => by cases h))⟩, [], List.mem_cons_self, fun f h => (by cases h)⟩
theorem rw_rgV5 {N : Int} {K : Nat → Nat} {n : Nat} {JX : (Nat → jcell) → Prop} : aGho (rH N K n) fa_T K n JX ag_rgV5 := by
  refine aGho_of ⟨rfl, rfl⟩ ?_
  intro p σ ρ hH hX hA hM0
  have hG := aAG_of hA.1 (fun i e v he hv => (hA.2 i e v he hv).1)
  clear hA
  obtain ⟨v0, v1, v2, v3, v4, rfl, g0, g1, g2, g3, g4⟩ := rA_5 hG
  clear hG
  obtain ⟨x0, rfl, b0, d0⟩ := rG_ref (by decide) g0
  obtain ⟨x1, rfl, b1, d1⟩ := aG_int g1
  dsimp only at b1 d1
  obtain ⟨x2, rfl, b2, d2⟩ := aG_int g2
  dsimp only at b2 d2
  obtain ⟨x3, rfl, b3, d3⟩ := aG_int g3
  dsimp only at b3 d3
  obtain ⟨x4, rfl, b4, d4⟩ := aG_int g4
  dsimp only at b4 d4
  obtain ⟨m1, m2, m3, m4⟩ := hM0
  obtain ⟨M, hM⟩ := rMe_ex hH b0 d0
  have l0 : 0 ≤ (1 * x2.toInt + (1 * x3.toInt + (-1 * x4.toInt + 0))) + 0 := by
    obtain ⟨z, e6, e7⟩ := m3 ([(2, 1), (3, 1), (4, -1)], 0) (List.mem_of_getElem? (i := 0) rfl)
    obtain rfl : (1 * x2.toInt + (1 * x3.toInt + (-1 * x4.toInt + 0))) = z := Option.some.inj (show some (1 * x2.toInt + (1 * x3.toInt + (-1 * x4.toInt + 0))) = some z from e6)
    exact e7
  have f0 : rB3 N K n p 379 [rR x0, rI x1, rI x2, rI x3] σ := by
    obtain ⟨w, e6, e7⟩ := m4 (6068, [0, 1, 2, 3]) (List.mem_of_getElem? (i := 0) rfl)
    obtain rfl : [rR x0, rI x1, rI x2, rI x3] = w := Option.some.inj (show some [rR x0, rI x1, rI x2, rI x3] = some w from e6)
    exact (rF_b (r := 6068) (by decide) rfl).mp e7
  obtain ⟨M9, h9, f0⟩ := ro3_379.mp f0
  obtain rfl := rMg_u hM h9
  clear h9
  clear m1 m2 m3 m4
  have q0 : rB3 N K n p 378 [rR x0, rI x1, rI x4] σ := ro3_378.mpr ⟨_, hM, by
    intro s hs
    exact f0 s (by omega)⟩
  exact ⟨p, fun _ => rfl, ⟨(fun q h => by cases h), fun q h => (by cases h), (fun f h => by cases h), (aAllc ⟨_, rfl, (rF_b (r := 6051) (by decide) rfl).mpr q0⟩ (fun f h => by cases h))⟩, [], List.mem_cons_self, fun f h => (by cases h)⟩
theorem rw_rgV60 {N : Int} {K : Nat → Nat} {n : Nat} {JX : (Nat → jcell) → Prop} : aGho (rH N K n) fa_T K n JX ag_rgV60 := by
  refine aGho_of ⟨rfl, rfl⟩ ?_
  intro p σ ρ hH hX hA hM0
  have hG := aAG_of hA.1 (fun i e v he hv => (hA.2 i e v he hv).1)
  clear hA
  obtain ⟨v0, v1, v2, v3, v4, v5, rfl, g0, g1, g2, g3, g4, g5⟩ := rA_6 hG
  clear hG
  obtain ⟨x0, rfl, b0, d0⟩ := rG_ref (by decide) g0
  obtain ⟨x1, rfl, b1, d1⟩ := rG_ref (by decide) g1
  obtain ⟨x2, rfl, b2, d2⟩ := aG_int g2
  dsimp only at b2 d2
  obtain ⟨x3, rfl, b3, d3⟩ := aG_int g3
  dsimp only at b3 d3
  obtain ⟨x4, rfl, b4, d4⟩ := aG_int g4
  dsimp only at b4 d4
  obtain ⟨x5, rfl, b5, d5⟩ := aG_int g5
  dsimp only at b5 d5
  obtain ⟨m1, m2, m3, m4⟩ := hM0
  obtain ⟨M, hM⟩ := rMe_ex hH b0 d0
  obtain ⟨a0, c0, fs0, w0, e1, s0, t0, e4⟩ := m1 (0, 2, 1) (List.mem_of_getElem? (i := 0) rfl)
  obtain rfl : x0 = a0 := Sum.inl.inj (Option.some.inj (Sum.inr.inj (Sum.inr.inj (Option.some.inj (show some (rR x0) = some _ from e1)))))
  obtain rfl : rR x1 = w0 := Option.some.inj (show some (rR x1) = some w0 from e4)
  clear e1 e4
  have l0 : 0 ≤ (1 * x4.toInt + (-8 * x2.toInt + (-1 * x3.toInt + 0))) + 0 := by
    obtain ⟨z, e6, e7⟩ := m3 ([(4, 1), (2, -8), (3, -1)], 0) (List.mem_of_getElem? (i := 0) rfl)
    obtain rfl : (1 * x4.toInt + (-8 * x2.toInt + (-1 * x3.toInt + 0))) = z := Option.some.inj (show some (1 * x4.toInt + (-8 * x2.toInt + (-1 * x3.toInt + 0))) = some z from e6)
    exact e7
  have l1 : 0 ≤ (-1 * x4.toInt + (8 * x2.toInt + (1 * x3.toInt + 0))) + 0 := by
    obtain ⟨z, e6, e7⟩ := m3 ([(4, -1), (2, 8), (3, 1)], 0) (List.mem_of_getElem? (i := 1) rfl)
    obtain rfl : (-1 * x4.toInt + (8 * x2.toInt + (1 * x3.toInt + 0))) = z := Option.some.inj (show some (-1 * x4.toInt + (8 * x2.toInt + (1 * x3.toInt + 0))) = some z from e6)
    exact e7
  have f0 : rB3 N K n p 378 [rR x0, rI x2, rI x3] σ := by
    obtain ⟨w, e6, e7⟩ := m4 (6051, [0, 2, 3]) (List.mem_of_getElem? (i := 0) rfl)
    obtain rfl : [rR x0, rI x2, rI x3] = w := Option.some.inj (show some [rR x0, rI x2, rI x3] = some w from e6)
    exact (rF_b (r := 6051) (by decide) rfl).mp e7
  obtain ⟨M9, h9, f0⟩ := ro3_378.mp f0
  obtain rfl := rMg_u hM h9
  clear h9
  clear m1 m2 m3 m4
  have q0 : rB3 N K n p 381 [rR x0, rI x2, rI x3] (jup σ x1 (jsto (σ x1) x4.toNatClampNeg x5)) := ro3_381.mpr ⟨_, rMg_up hM s0 t0 (by omega) (by omega), by
    intro s hs
    show rUp M x4.toInt x5.toInt s = 0 ∨ (0 ≤ s ∧ s ≤ 63 ∧ ((1 ≤ rUp M x4.toInt x5.toInt s ∧ rUp M x4.toInt x5.toInt s ≤ 6) ∨ (9 ≤ rUp M x4.toInt x5.toInt s ∧ rUp M x4.toInt x5.toInt s ≤ 14)))
    unfold rUp
    by_cases cs : s = x4.toInt
    · rw [if_pos cs]
      omega
    · rw [if_neg cs]
      exact f0 s (by omega)⟩
  exact ⟨p, fun _ => rfl, ⟨(fun q h => by cases h), fun q h => (by cases h), (fun f h => by cases h), (aAllc ⟨_, rfl, rF_p (r := 6099) (by decide) (by decide) q0⟩ (fun f h => by cases h))⟩, [], List.mem_cons_self, fun f h => (by cases h)⟩
theorem rw_rgV61 {N : Int} {K : Nat → Nat} {n : Nat} {JX : (Nat → jcell) → Prop} : aGho (rH N K n) fa_T K n JX ag_rgV61 := by
  refine aGho_of ⟨rfl, rfl⟩ ?_
  intro p σ ρ hH hX hA hM0
  have hG := aAG_of hA.1 (fun i e v he hv => (hA.2 i e v he hv).1)
  clear hA
  obtain ⟨v0, v1, v2, v3, v4, v5, rfl, g0, g1, g2, g3, g4, g5⟩ := rA_6 hG
  clear hG
  obtain ⟨x0, rfl, b0, d0⟩ := rG_ref (by decide) g0
  obtain ⟨x1, rfl, b1, d1⟩ := rG_ref (by decide) g1
  obtain ⟨x2, rfl, b2, d2⟩ := aG_int g2
  dsimp only at b2 d2
  obtain ⟨x3, rfl, b3, d3⟩ := aG_int g3
  dsimp only at b3 d3
  obtain ⟨x4, rfl, b4, d4⟩ := aG_int g4
  dsimp only at b4 d4
  obtain ⟨x5, rfl, b5, d5⟩ := aG_int g5
  dsimp only at b5 d5
  obtain ⟨m1, m2, m3, m4⟩ := hM0
  obtain ⟨M, hM⟩ := rMe_ex hH b0 d0
  obtain ⟨a0, c0, fs0, w0, e1, s0, t0, e4⟩ := m1 (0, 2, 1) (List.mem_of_getElem? (i := 0) rfl)
  obtain rfl : x0 = a0 := Sum.inl.inj (Option.some.inj (Sum.inr.inj (Sum.inr.inj (Option.some.inj (show some (rR x0) = some _ from e1)))))
  obtain rfl : rR x1 = w0 := Option.some.inj (show some (rR x1) = some w0 from e4)
  clear e1 e4
  have l0 : 0 ≤ (1 * x4.toInt + (-8 * x2.toInt + (-1 * x3.toInt + 0))) + 0 := by
    obtain ⟨z, e6, e7⟩ := m3 ([(4, 1), (2, -8), (3, -1)], 0) (List.mem_of_getElem? (i := 0) rfl)
    obtain rfl : (1 * x4.toInt + (-8 * x2.toInt + (-1 * x3.toInt + 0))) = z := Option.some.inj (show some (1 * x4.toInt + (-8 * x2.toInt + (-1 * x3.toInt + 0))) = some z from e6)
    exact e7
  have l1 : 0 ≤ (-1 * x4.toInt + (8 * x2.toInt + (1 * x3.toInt + 0))) + 0 := by
    obtain ⟨z, e6, e7⟩ := m3 ([(4, -1), (2, 8), (3, 1)], 0) (List.mem_of_getElem? (i := 1) rfl)
    obtain rfl : (-1 * x4.toInt + (8 * x2.toInt + (1 * x3.toInt + 0))) = z := Option.some.inj (show some (-1 * x4.toInt + (8 * x2.toInt + (1 * x3.toInt + 0))) = some z from e6)
    exact e7
  have f0 : rB3 N K n p 378 [rR x0, rI x2, rI x3] σ := by
    obtain ⟨w, e6, e7⟩ := m4 (6051, [0, 2, 3]) (List.mem_of_getElem? (i := 0) rfl)
    obtain rfl : [rR x0, rI x2, rI x3] = w := Option.some.inj (show some [rR x0, rI x2, rI x3] = some w from e6)
    exact (rF_b (r := 6051) (by decide) rfl).mp e7
  obtain ⟨M9, h9, f0⟩ := ro3_378.mp f0
  obtain rfl := rMg_u hM h9
  clear h9
  clear m1 m2 m3 m4
  have q0 : rB3 N K n p 381 [rR x0, rI x2, rI x3] (jup σ x1 (jsto (σ x1) x4.toNatClampNeg x5)) := ro3_381.mpr ⟨_, rMg_up hM s0 t0 (by omega) (by omega), by
    intro s hs
    show rUp M x4.toInt x5.toInt s = 0 ∨ (0 ≤ s ∧ s ≤ 63 ∧ ((1 ≤ rUp M x4.toInt x5.toInt s ∧ rUp M x4.toInt x5.toInt s ≤ 6) ∨ (9 ≤ rUp M x4.toInt x5.toInt s ∧ rUp M x4.toInt x5.toInt s ≤ 14)))
    unfold rUp
    by_cases cs : s = x4.toInt
    · rw [if_pos cs]
      omega
    · rw [if_neg cs]
      exact f0 s (by omega)⟩
  exact ⟨p, fun _ => rfl, ⟨(fun q h => by cases h), fun q h => (by cases h), (fun f h => by cases h), (aAllc ⟨_, rfl, rF_p (r := 6099) (by decide) (by decide) q0⟩ (fun f h => by cases h))⟩, [], List.mem_cons_self, fun f h => (by cases h)⟩
theorem rw_rgV7 {N : Int} {K : Nat → Nat} {n : Nat} {JX : (Nat → jcell) → Prop} : aGho (rH N K n) fa_T K n JX ag_rgV7 := by
  refine aGho_of ⟨rfl, rfl⟩ ?_
  intro p σ ρ hH hX hA hM0
  have hG := aAG_of hA.1 (fun i e v he hv => (hA.2 i e v he hv).1)
  clear hA
  obtain ⟨v0, v1, v2, v3, rfl, g0, g1, g2, g3⟩ := rA_4 hG
  clear hG
  obtain ⟨x0, rfl, b0, d0⟩ := rG_ref (by decide) g0
  obtain ⟨x1, rfl, b1, d1⟩ := aG_int g1
  dsimp only at b1 d1
  obtain ⟨x2, rfl, b2, d2⟩ := aG_int g2
  dsimp only at b2 d2
  obtain ⟨x3, rfl, b3, d3⟩ := aG_int g3
  dsimp only at b3 d3
  obtain ⟨m1, m2, m3, m4⟩ := hM0
  obtain ⟨M, hM⟩ := rMe_ex hH b0 d0
  have l0 : 0 ≤ (1 * x3.toInt + (-1 * x2.toInt + 0)) + -1 := by
    obtain ⟨z, e6, e7⟩ := m3 ([(3, 1), (2, -1)], -1) (List.mem_of_getElem? (i := 0) rfl)
    obtain rfl : (1 * x3.toInt + (-1 * x2.toInt + 0)) = z := Option.some.inj (show some (1 * x3.toInt + (-1 * x2.toInt + 0)) = some z from e6)
    exact e7
  have l1 : 0 ≤ (-1 * x3.toInt + (1 * x2.toInt + 0)) + 1 := by
    obtain ⟨z, e6, e7⟩ := m3 ([(3, -1), (2, 1)], 1) (List.mem_of_getElem? (i := 1) rfl)
    obtain rfl : (-1 * x3.toInt + (1 * x2.toInt + 0)) = z := Option.some.inj (show some (-1 * x3.toInt + (1 * x2.toInt + 0)) = some z from e6)
    exact e7
  have f0 : rB3 N K n p 381 [rR x0, rI x1, rI x2] σ := by
    obtain ⟨w, e6, e7⟩ := m4 (6099, [0, 1, 2]) (List.mem_of_getElem? (i := 0) rfl)
    obtain rfl : [rR x0, rI x1, rI x2] = w := Option.some.inj (show some [rR x0, rI x1, rI x2] = some w from e6)
    exact (rF_b (r := 6099) (by decide) rfl).mp e7
  obtain ⟨M9, h9, f0⟩ := ro3_381.mp f0
  obtain rfl := rMg_u hM h9
  clear h9
  clear m1 m2 m3 m4
  have q0 : rB3 N K n p 378 [rR x0, rI x1, rI x3] σ := ro3_378.mpr ⟨_, hM, by
    intro s hs
    exact f0 s (by omega)⟩
  exact ⟨p, fun _ => rfl, ⟨(fun q h => by cases h), fun q h => (by cases h), (fun f h => by cases h), (aAllc ⟨_, rfl, (rF_b (r := 6051) (by decide) rfl).mpr q0⟩ (fun f h => by cases h))⟩, [], List.mem_cons_self, fun f h => (by cases h)⟩
theorem rw_rgV8 {N : Int} {K : Nat → Nat} {n : Nat} {JX : (Nat → jcell) → Prop} : aGho (rH N K n) fa_T K n JX ag_rgV8 := by
  refine aGho_of ⟨rfl, rfl⟩ ?_
  intro p σ ρ hH hX hA hM0
  have hG := aAG_of hA.1 (fun i e v he hv => (hA.2 i e v he hv).1)
  clear hA
  obtain ⟨v0, v1, v2, v3, rfl, g0, g1, g2, g3⟩ := rA_4 hG
  clear hG
  obtain ⟨x0, rfl, b0, d0⟩ := rG_ref (by decide) g0
  obtain ⟨x1, rfl, b1, d1⟩ := aG_int g1
  dsimp only at b1 d1
  obtain ⟨x2, rfl, b2, d2⟩ := aG_int g2
  dsimp only at b2 d2
  obtain ⟨x3, rfl, b3, d3⟩ := aG_int g3
  dsimp only at b3 d3
  obtain ⟨m1, m2, m3, m4⟩ := hM0
  obtain ⟨M, hM⟩ := rMe_ex hH b0 d0
  have l0 : 0 ≤ (1 * x3.toInt + (-1 * x1.toInt + 0)) + 1 := by
    obtain ⟨z, e6, e7⟩ := m3 ([(3, 1), (1, -1)], 1) (List.mem_of_getElem? (i := 0) rfl)
    obtain rfl : (1 * x3.toInt + (-1 * x1.toInt + 0)) = z := Option.some.inj (show some (1 * x3.toInt + (-1 * x1.toInt + 0)) = some z from e6)
    exact e7
  have l1 : 0 ≤ (-1 * x3.toInt + (1 * x1.toInt + 0)) + -1 := by
    obtain ⟨z, e6, e7⟩ := m3 ([(3, -1), (1, 1)], -1) (List.mem_of_getElem? (i := 1) rfl)
    obtain rfl : (-1 * x3.toInt + (1 * x1.toInt + 0)) = z := Option.some.inj (show some (-1 * x3.toInt + (1 * x1.toInt + 0)) = some z from e6)
    exact e7
  have f0 : rB3 N K n p 378 [rR x0, rI x1, rI x2] σ := by
    obtain ⟨w, e6, e7⟩ := m4 (6051, [0, 1, 2]) (List.mem_of_getElem? (i := 0) rfl)
    obtain rfl : [rR x0, rI x1, rI x2] = w := Option.some.inj (show some [rR x0, rI x1, rI x2] = some w from e6)
    exact (rF_b (r := 6051) (by decide) rfl).mp e7
  obtain ⟨M9, h9, f0⟩ := ro3_378.mp f0
  obtain rfl := rMg_u hM h9
  clear h9
  clear m1 m2 m3 m4
  have q0 : rB3 N K n p 377 [rR x0, rI x3] σ := ro3_377.mpr ⟨_, hM, by
    intro s hs
    exact f0 s (by omega)⟩
  exact ⟨p, fun _ => rfl, ⟨(fun q h => by cases h), fun q h => (by cases h), (fun f h => by cases h), (aAllc ⟨_, rfl, (rF_b (r := 6034) (by decide) rfl).mpr q0⟩ (fun f h => by cases h))⟩, [], List.mem_cons_self, fun f h => (by cases h)⟩
theorem rw_rgV9 {N : Int} {K : Nat → Nat} {n : Nat} {JX : (Nat → jcell) → Prop} : aGho (rH N K n) fa_T K n JX ag_rgV9 := by
  refine aGho_of ⟨rfl, rfl⟩ ?_
  intro p σ ρ hH hX hA hM0
  have hG := aAG_of hA.1 (fun i e v he hv => (hA.2 i e v he hv).1)
  clear hA
  obtain ⟨v0, v1, rfl, g0, g1⟩ := rA_2 hG
  clear hG
  obtain ⟨x0, rfl, b0, d0⟩ := rG_ref (by decide) g0
  obtain ⟨x1, rfl, b1, d1⟩ := aG_int g1
  dsimp only at b1 d1
  obtain ⟨m1, m2, m3, m4⟩ := hM0
  obtain ⟨M, hM⟩ := rMe_ex hH b0 d0
  have f0 : rB3 N K n p 377 [rR x0, rI x1] σ := by
    obtain ⟨w, e6, e7⟩ := m4 (6034, [0, 1]) (List.mem_of_getElem? (i := 0) rfl)
    obtain rfl : [rR x0, rI x1] = w := Option.some.inj (show some [rR x0, rI x1] = some w from e6)
    exact (rF_b (r := 6034) (by decide) rfl).mp e7
  obtain ⟨M9, h9, f0⟩ := ro3_377.mp f0
  obtain rfl := rMg_u hM h9
  clear h9
  clear m1 m2 m3 m4
  have hZ : ∀ s, ¬ (0 ≤ s ∧ s ≤ 63) → M s = 0 := rZ_of hM
  have q0 : rB3 N K n p 376 [rR x0] σ := ro3_376.mpr ⟨_, hM, by
    intro s
    by_cases cs : 0 ≤ s ∧ s ≤ 63
    · exact f0 s (by omega)
    · exact Or.inl (hZ s cs)⟩
  exact ⟨p, fun _ => rfl, ⟨(fun q h => by cases h), fun q h => (by cases h), (fun f h => by cases h), (aAllc ⟨_, rfl, (rF_b (r := 6017) (by decide) rfl).mpr q0⟩ (fun f h => by cases h))⟩, [], List.mem_cons_self, fun f h => (by cases h)⟩
theorem rw_rgVa {N : Int} {K : Nat → Nat} {n : Nat} {JX : (Nat → jcell) → Prop} : aGho (rH N K n) fa_T K n JX ag_rgVa := by
  refine aGho_of ⟨rfl, rfl⟩ ?_
  intro p σ ρ hH hX hA hM0
  have hG := aAG_of hA.1 (fun i e v he hv => (hA.2 i e v he hv).1)
  clear hA
  obtain ⟨v0, v1, rfl, g0, g1⟩ := rA_2 hG
  clear hG
  obtain ⟨x0, rfl, b0, d0⟩ := rG_ref (by decide) g0
  obtain ⟨x1, rfl, b1, d1⟩ := aG_int g1
  dsimp only at b1 d1
  obtain ⟨m1, m2, m3, m4⟩ := hM0
  obtain ⟨M, hM⟩ := rMe_ex hH b0 d0
  clear m1 m2 m3 m4
  have q0 : rB3 N K n p 384 [rR x0, rI x1] σ := ro3_384.mpr ⟨_, hM, by
    intro h
    omega⟩
  exact ⟨p, fun _ => rfl, ⟨(fun q h => by cases h), fun q h => (by cases h), (fun f h => by cases h), (aAllc ⟨_, rfl, (rF_b (r := 6146) (by decide) rfl).mpr q0⟩ (fun f h => by cases h))⟩, [], List.mem_cons_self, fun f h => (by cases h)⟩
theorem rw_rgVb {N : Int} {K : Nat → Nat} {n : Nat} {JX : (Nat → jcell) → Prop} : aGho (rH N K n) fa_T K n JX ag_rgVb := by
  refine aGho_of ⟨rfl, rfl⟩ ?_
  intro p σ ρ hH hX hA hM0
  have hG := aAG_of hA.1 (fun i e v he hv => (hA.2 i e v he hv).1)
  clear hA
  obtain ⟨v0, v1, rfl, g0, g1⟩ := rA_2 hG
  clear hG
  obtain ⟨x0, rfl, b0, d0⟩ := rG_ref (by decide) g0
  obtain ⟨x1, rfl, b1, d1⟩ := aG_int g1
  dsimp only at b1 d1
  obtain ⟨m1, m2, m3, m4⟩ := hM0
  obtain ⟨M, hM⟩ := rMe_ex hH b0 d0
  have f0 : rB3 N K n p 376 [rR x0] σ := by
    obtain ⟨w, e6, e7⟩ := m4 (6017, [0]) (List.mem_of_getElem? (i := 0) rfl)
    obtain rfl : [rR x0] = w := Option.some.inj (show some [rR x0] = some w from e6)
    exact (rF_b (r := 6017) (by decide) rfl).mp e7
  obtain ⟨M9, h9, f0⟩ := ro3_376.mp f0
  obtain rfl := rMg_u hM h9
  clear h9
  clear m1 m2 m3 m4
  have q0 : rB3 N K n p 384 [rR x0, rI x1] σ := ro3_384.mpr ⟨_, hM, by
    exact fun _ => f0⟩
  exact ⟨p, fun _ => rfl, ⟨(fun q h => by cases h), fun q h => (by cases h), (fun f h => by cases h), (aAllc ⟨_, rfl, (rF_b (r := 6146) (by decide) rfl).mpr q0⟩ (fun f h => by cases h))⟩, [], List.mem_cons_self, fun f h => (by cases h)⟩
theorem rw_rgVc {N : Int} {K : Nat → Nat} {n : Nat} {JX : (Nat → jcell) → Prop} : aGho (rH N K n) fa_T K n JX ag_rgVc := by
  refine aGho_of ⟨rfl, rfl⟩ ?_
  intro p σ ρ hH hX hA hM0
  have hG := aAG_of hA.1 (fun i e v he hv => (hA.2 i e v he hv).1)
  clear hA
  obtain ⟨v0, v1, rfl, g0, g1⟩ := rA_2 hG
  clear hG
  obtain ⟨x0, rfl, b0, d0⟩ := rG_ref (by decide) g0
  obtain ⟨x1, rfl, b1, d1⟩ := aG_int g1
  dsimp only at b1 d1
  obtain ⟨m1, m2, m3, m4⟩ := hM0
  obtain ⟨M, hM⟩ := rMe_ex hH b0 d0
  have f0 : rB3 N K n p 384 [rR x0, rI x1] σ := by
    obtain ⟨w, e6, e7⟩ := m4 (6146, [0, 1]) (List.mem_of_getElem? (i := 0) rfl)
    obtain rfl : [rR x0, rI x1] = w := Option.some.inj (show some [rR x0, rI x1] = some w from e6)
    exact (rF_b (r := 6146) (by decide) rfl).mp e7
  obtain ⟨M9, h9, f0⟩ := ro3_384.mp f0
  obtain rfl := rMg_u hM h9
  clear h9
  clear m1 m2 m3 m4
  have q0 : rB3 N K n p 376 [rR x0] σ := ro3_376.mpr ⟨_, hM, by
    exact f0 b1⟩
  exact ⟨p, fun _ => rfl, ⟨(fun q h => by cases h), fun q h => (by cases h), (fun f h => by cases h), (aAllc ⟨_, rfl, (rF_b (r := 6017) (by decide) rfl).mpr q0⟩ (fun f h => by cases h))⟩, [], List.mem_cons_self, fun f h => (by cases h)⟩
theorem rw_rgMa {N : Int} {K : Nat → Nat} {n : Nat} {JX : (Nat → jcell) → Prop} : aGho (rH N K n) fa_T K n JX ag_rgMa := by
  refine aGho_of ⟨rfl, rfl⟩ ?_
  intro p σ ρ hH hX hA hM0
  have hG := aAG_of hA.1 (fun i e v he hv => (hA.2 i e v he hv).1)
  clear hA
  obtain ⟨v0, rfl, g0⟩ := rA_1 hG
  clear hG
  obtain ⟨x0, rfl, b0, d0⟩ := aG_int g0
  dsimp only at b0 d0
  obtain ⟨m1, m2, m3, m4⟩ := hM0
  clear m1 m2 m3 m4
  have q0 : rB3 N K n p 385 [rI x0] σ := ro3_385.mpr (by
    omega)
  exact ⟨p, fun _ => rfl, ⟨(fun q h => by cases h), fun q h => (by cases h), (fun f h => by cases h), (aAllc ⟨_, rfl, (rF_b (r := 6161) (by decide) rfl).mpr q0⟩ (fun f h => by cases h))⟩, [], List.mem_cons_self, fun f h => (by cases h)⟩
theorem rw_rgMb {N : Int} {K : Nat → Nat} {n : Nat} {JX : (Nat → jcell) → Prop} : aGho (rH N K n) fa_T K n JX ag_rgMb := by
  refine aGho_of ⟨rfl, rfl⟩ ?_
  intro p σ ρ hH hX hA hM0
  have hG := aAG_of hA.1 (fun i e v he hv => (hA.2 i e v he hv).1)
  clear hA
  obtain ⟨v0, v1, v2, rfl, g0, g1, g2⟩ := rA_3 hG
  clear hG
  obtain ⟨x0, rfl, b0, d0⟩ := aG_int g0
  dsimp only at b0 d0
  obtain ⟨x1, rfl, b1, d1⟩ := aG_int g1
  dsimp only at b1 d1
  obtain ⟨x2, rfl, b2, d2⟩ := aG_int g2
  dsimp only at b2 d2
  obtain ⟨m1, m2, m3, m4⟩ := hM0
  have f0 : rB3 N K n p 147 [rI x0, rI x1] σ := by
    obtain ⟨w, e6, e7⟩ := m4 (2354, [0, 1]) (List.mem_of_getElem? (i := 0) rfl)
    obtain rfl : [rI x0, rI x1] = w := Option.some.inj (show some [rI x0, rI x1] = some w from e6)
    exact (rF_b (r := 2354) (by decide) rfl).mp e7
  have f0 := ro3_147.mp f0
  have f1 : rB3 N K n p 147 [rI x0, rI x2] σ := by
    obtain ⟨w, e6, e7⟩ := m4 (2354, [0, 2]) (List.mem_of_getElem? (i := 1) rfl)
    obtain rfl : [rI x0, rI x2] = w := Option.some.inj (show some [rI x0, rI x2] = some w from e6)
    exact (rF_b (r := 2354) (by decide) rfl).mp e7
  have f1 := ro3_147.mp f1
  clear m1 m2 m3 m4
  have q0 : rB3 N K n p 385 [rI x0] σ := ro3_385.mpr (by
    have h1 := f0
    have h2 := f1
    omega)
  exact ⟨p, fun _ => rfl, ⟨(fun q h => by cases h), fun q h => (by cases h), (fun f h => by cases h), (aAllc ⟨_, rfl, (rF_b (r := 6161) (by decide) rfl).mpr q0⟩ (fun f h => by cases h))⟩, [], List.mem_cons_self, fun f h => (by cases h)⟩
theorem rw_rgMc {N : Int} {K : Nat → Nat} {n : Nat} {JX : (Nat → jcell) → Prop} : aGho (rH N K n) fa_T K n JX ag_rgMc := by
  refine aGho_of ⟨rfl, rfl⟩ ?_
  intro p σ ρ hH hX hA hM0
  have hG := aAG_of hA.1 (fun i e v he hv => (hA.2 i e v he hv).1)
  clear hA
  obtain ⟨v0, rfl, g0⟩ := rA_1 hG
  clear hG
  obtain ⟨x0, rfl, b0, d0⟩ := aG_int g0
  dsimp only at b0 d0
  obtain ⟨m1, m2, m3, m4⟩ := hM0
  have f0 : rB3 N K n p 385 [rI x0] σ := by
    obtain ⟨w, e6, e7⟩ := m4 (6161, [0]) (List.mem_of_getElem? (i := 0) rfl)
    obtain rfl : [rI x0] = w := Option.some.inj (show some [rI x0] = some w from e6)
    exact (rF_b (r := 6161) (by decide) rfl).mp e7
  have f0 := ro3_385.mp f0
  clear m1 m2 m3 m4
  have hd : (0 ≤ (1 * x0.toInt + 0) + 0 ∧ 0 ≤ (-1 * x0.toInt + 0) + 0) ∨ (0 ≤ (1 * x0.toInt + 0) + -1 ∧ 0 ≤ (-1 * x0.toInt + 0) + 6) ∨ (0 ≤ (1 * x0.toInt + 0) + -9) := by
    omega
  rcases hd with ⟨w0, w1⟩ | ⟨w0, w1⟩ | w0
  · exact ⟨p, fun _ => rfl, ⟨(fun q h => by cases h), fun q h => (by cases h), (fun f h => by cases h), (fun f h => by cases h)⟩, _, List.mem_of_getElem? (i := 0) rfl, (aAllc ⟨_, rfl, w0⟩ (aAllc ⟨_, rfl, w1⟩ (fun f h => by cases h)))⟩
  · exact ⟨p, fun _ => rfl, ⟨(fun q h => by cases h), fun q h => (by cases h), (fun f h => by cases h), (fun f h => by cases h)⟩, _, List.mem_of_getElem? (i := 1) rfl, (aAllc ⟨_, rfl, w0⟩ (aAllc ⟨_, rfl, w1⟩ (fun f h => by cases h)))⟩
  · exact ⟨p, fun _ => rfl, ⟨(fun q h => by cases h), fun q h => (by cases h), (fun f h => by cases h), (fun f h => by cases h)⟩, _, List.mem_of_getElem? (i := 2) rfl, (aAllc ⟨_, rfl, w0⟩ (fun f h => by cases h))⟩
theorem rw_rgF1 {N : Int} {K : Nat → Nat} {n : Nat} {JX : (Nat → jcell) → Prop} : aGho (rH N K n) fa_T K n JX ag_rgF1 := by
  refine aGho_of ⟨rfl, rfl⟩ ?_
  intro p σ ρ hH hX hA hM0
  have hG := aAG_of hA.1 (fun i e v he hv => (hA.2 i e v he hv).1)
  clear hA
  obtain ⟨v0, v1, rfl, g0, g1⟩ := rA_2 hG
  clear hG
  obtain ⟨x0, rfl, b0, d0⟩ := rG_ref (by decide) g0
  obtain ⟨x1, rfl, b1, d1⟩ := aG_int g1
  dsimp only at b1 d1
  obtain ⟨m1, m2, m3, m4⟩ := hM0
  obtain ⟨M, hM⟩ := rMe_ex hH b0 d0
  clear m1 m2 m3 m4
  have q0 : rB3 N K n p 386 [rR x0, rI x1] σ := ro3_386.mpr (by
    intro h
    omega)
  exact ⟨p, fun _ => rfl, ⟨(fun q h => by cases h), fun q h => (by cases h), (fun f h => by cases h), (aAllc ⟨_, rfl, (rF_b (r := 6178) (by decide) rfl).mpr q0⟩ (fun f h => by cases h))⟩, [], List.mem_cons_self, fun f h => (by cases h)⟩
theorem rw_rgF0 {N : Int} {K : Nat → Nat} {n : Nat} {JX : (Nat → jcell) → Prop} : aGho (rH N K n) fa_T K n JX ag_rgF0 := by
  refine aGho_of ⟨rfl, rfl⟩ ?_
  intro p σ ρ hH hX hA hM0
  have hG := aAG_of hA.1 (fun i e v he hv => (hA.2 i e v he hv).1)
  clear hA
  obtain ⟨v0, v1, rfl, g0, g1⟩ := rA_2 hG
  clear hG
  obtain ⟨x0, rfl, b0, d0⟩ := rG_ref (by decide) g0
  obtain ⟨x1, rfl, b1, d1⟩ := aG_int g1
  dsimp only at b1 d1
  obtain ⟨m1, m2, m3, m4⟩ := hM0
  obtain ⟨M, hM⟩ := rMe_ex hH b0 d0
  have f0 : rB3 N K n p 197 [rR x0, rI x1] σ := by
    obtain ⟨w, e6, e7⟩ := m4 (3154, [0, 1]) (List.mem_of_getElem? (i := 0) rfl)
    obtain rfl : [rR x0, rI x1] = w := Option.some.inj (show some [rR x0, rI x1] = some w from e6)
    exact (rF_b (r := 3154) (by decide) rfl).mp e7
  have f0 := ro3_197.mp f0
  have f1 : rB3 N K n p 376 [rR x0] σ := by
    obtain ⟨w, e6, e7⟩ := m4 (6017, [0]) (List.mem_of_getElem? (i := 1) rfl)
    obtain rfl : [rR x0] = w := Option.some.inj (show some [rR x0] = some w from e6)
    exact (rF_b (r := 6017) (by decide) rfl).mp e7
  obtain ⟨M9, h9, f1⟩ := ro3_376.mp f1
  obtain rfl := rMg_u hM h9
  clear h9
  clear m1 m2 m3 m4
  have q0 : rB3 N K n p 386 [rR x0, rI x1] σ := ro3_386.mpr (by
    intro _
    exact ⟨f0 (by omega), M, hM, f1⟩)
  exact ⟨p, fun _ => rfl, ⟨(fun q h => by cases h), fun q h => (by cases h), (fun f h => by cases h), (aAllc ⟨_, rfl, (rF_b (r := 6178) (by decide) rfl).mpr q0⟩ (fun f h => by cases h))⟩, [], List.mem_cons_self, fun f h => (by cases h)⟩
theorem rw_rgQ1 {N : Int} {K : Nat → Nat} {n : Nat} {JX : (Nat → jcell) → Prop} : aGho (rH N K n) fa_T K n JX ag_rgQ1 := by
  refine aGho_of ⟨rfl, rfl⟩ ?_
  intro p σ ρ hH hX hA hM0
  have hG := aAG_of hA.1 (fun i e v he hv => (hA.2 i e v he hv).1)
  clear hA
  obtain ⟨v0, v1, v2, v3, rfl, g0, g1, g2, g3⟩ := rA_4 hG
  clear hG
  obtain ⟨x0, rfl, b0, d0⟩ := rG_ref (by decide) g0
  obtain ⟨x1, rfl, b1, d1⟩ := rG_ref (by decide) g1
  obtain ⟨x2, rfl, b2, d2⟩ := aG_int g2
  dsimp only at b2 d2
  obtain ⟨x3, rfl, b3, d3⟩ := aG_int g3
  dsimp only at b3 d3
  obtain ⟨m1, m2, m3, m4⟩ := hM0
  obtain ⟨T, hT⟩ := rTe_ex hH b0 d0
  obtain ⟨a0, c0, fs0, w0, e1, s0, t0, e4⟩ := m1 (0, 31, 1) (List.mem_of_getElem? (i := 0) rfl)
  obtain rfl : x0 = a0 := Sum.inl.inj (Option.some.inj (Sum.inr.inj (Sum.inr.inj (Option.some.inj (show some (rR x0) = some _ from e1)))))
  obtain rfl : rR x1 = w0 := Option.some.inj (show some (rR x1) = some w0 from e4)
  clear e1 e4
  obtain ⟨a1, c1, fs1, w1, e1, s1, t1, e4⟩ := m1 (0, 29, 3) (List.mem_of_getElem? (i := 1) rfl)
  obtain rfl : x0 = a1 := Sum.inl.inj (Option.some.inj (Sum.inr.inj (Sum.inr.inj (Option.some.inj (show some (rR x0) = some _ from e1)))))
  obtain rfl : rI x3 = w1 := Option.some.inj (show some (rI x3) = some w1 from e4)
  clear e1 e4
  have f0 : rB3 N K n p 387 [rR x0] σ := by
    obtain ⟨w, e6, e7⟩ := m4 (6193, [0]) (List.mem_of_getElem? (i := 0) rfl)
    obtain rfl : [rR x0] = w := Option.some.inj (show some [rR x0] = some w from e6)
    exact (rF_b (r := 6193) (by decide) rfl).mp e7
  have f0 := ro3_387.mp f0
  clear m1 m2 m3 m4
  have q0 : rB3 N K n p 388 [rR x0] (jup σ x1 (jsto (σ x1) x2.toNatClampNeg x3)) := ro3_388.mpr (by
    obtain ⟨v, o, h1, h2⟩ := f0
    cases rOb_u o ⟨b0, d0, _, _, s1, t1⟩
    obtain ⟨g, h⟩ := rRo_of (k := 62) (f := 31) hH b0 d0 s0 t0 b1 d1 rfl
    refine ⟨_, rRo_up h s0 t0, ?_⟩
    have hi : x2.toNatClampNeg = x2.toInt.toNat := rfl
    unfold upd
    rw [if_pos (by rw [hi]; omega)]
    exact ⟨h1, h2⟩)
  exact ⟨p, fun _ => rfl, ⟨(fun q h => by cases h), fun q h => (by cases h), (fun f h => by cases h), (aAllc ⟨_, rfl, rF_p (r := 6209) (by decide) (by decide) q0⟩ (fun f h => by cases h))⟩, [], List.mem_cons_self, fun f h => (by cases h)⟩
theorem rw_rgQ2 {N : Int} {K : Nat → Nat} {n : Nat} {JX : (Nat → jcell) → Prop} : aGho (rH N K n) fa_T K n JX ag_rgQ2 := by
  refine aGho_of ⟨rfl, rfl⟩ ?_
  intro p σ ρ hH hX hA hM0
  have hG := aAG_of hA.1 (fun i e v he hv => (hA.2 i e v he hv).1)
  clear hA
  obtain ⟨v0, v1, v2, rfl, g0, g1, g2⟩ := rA_3 hG
  clear hG
  obtain ⟨x0, rfl, b0, d0⟩ := rG_ref (by decide) g0
  obtain ⟨x1, rfl, b1, d1⟩ := rG_ref (by decide) g1
  obtain ⟨x2, rfl, b2, d2⟩ := aG_int g2
  dsimp only at b2 d2
  obtain ⟨m1, m2, m3, m4⟩ := hM0
  obtain ⟨T, hT⟩ := rTe_ex hH b0 d0
  obtain ⟨a0, c0, fs0, w0, e1, s0, t0, e4⟩ := m1 (0, 31, 1) (List.mem_of_getElem? (i := 0) rfl)
  obtain rfl : x0 = a0 := Sum.inl.inj (Option.some.inj (Sum.inr.inj (Sum.inr.inj (Option.some.inj (show some (rR x0) = some _ from e1)))))
  obtain rfl : rR x1 = w0 := Option.some.inj (show some (rR x1) = some w0 from e4)
  clear e1 e4
  obtain ⟨a, mc0, ty0, gc0, ic0, e1, sc0, jc0, e4, e5⟩ := m2 (1, ([], 4), 2) (List.mem_of_getElem? (i := 0) rfl)
  obtain rfl : x1 = a := Sum.inl.inj (Option.some.inj (Sum.inr.inj (Sum.inr.inj (Option.some.inj (show some (rR x1) = some _ from e1)))))
  obtain ⟨gc0, rfl⟩ : ∃ g, gc0 = .inl g := by
    rcases gc0 with g | g
    · exact ⟨g, rfl⟩
    · exact absurd (show some (rI x2) = some (.inr (.inl (g ic0))) from e5) (fun h => by cases h)
  have sc0 : σ x1 = .inl (ty0, mc0, .inl gc0) := sc0
  have ec0 : x2 = gc0 ic0 := Sum.inl.inj (Option.some.inj (show some (rI x2) = some _ from e5))
  have kc0 : (ic0 : Int) = 0 + 4 := by
    obtain ⟨z, e6, e7⟩ := e4
    obtain rfl : 0 = z := Option.some.inj (show some 0 = some z from e6)
    exact e7
  clear e1 e4 e5
  have f0 : rB3 N K n p 388 [rR x0] σ := by
    obtain ⟨w, e6, e7⟩ := m4 (6209, [0]) (List.mem_of_getElem? (i := 0) rfl)
    obtain rfl : [rR x0] = w := Option.some.inj (show some [rR x0] = some w from e6)
    exact (rF_b (r := 6209) (by decide) rfl).mp e7
  have f0 := ro3_388.mp f0
  clear m1 m2 m3 m4
  have q0 : rB3 N K n p 387 [rR x0] (jup σ x0 (jstf (σ x0) 29 (rI x2))) := ro3_387.mpr (by
    obtain ⟨g, r1, h1, h2⟩ := f0
    have e1 := rRo_c (i := ic0) r1 s0 t0 sc0 ec0
    rw [show ic0 = 4 by omega] at e1
    obtain ⟨w, o⟩ := rOb_ex (k := 62) (f := 29) hH b0 d0 rfl (by decide)
    exact ⟨x2, rOb_ss o, by omega, by omega⟩)
  exact ⟨p, fun _ => rfl, ⟨(fun q h => by cases h), fun q h => (by cases h), (fun f h => by cases h), (aAllc ⟨_, rfl, rF_pf (r := 6193) (f := 29) (by decide) (by decide) q0⟩ (fun f h => by cases h))⟩, [], List.mem_cons_self, fun f h => (by cases h)⟩
theorem rw_rgQ3 {N : Int} {K : Nat → Nat} {n : Nat} {JX : (Nat → jcell) → Prop} : aGho (rH N K n) fa_T K n JX ag_rgQ3 := by
  refine aGho_of ⟨rfl, rfl⟩ ?_
  intro p σ ρ hH hX hA hM0
  have hG := aAG_of hA.1 (fun i e v he hv => (hA.2 i e v he hv).1)
  clear hA
  obtain ⟨v0, v1, rfl, g0, g1⟩ := rA_2 hG
  clear hG
  obtain ⟨x0, rfl, b0, d0⟩ := rG_ref (by decide) g0
  obtain ⟨x1, rfl, b1, d1⟩ := aG_int g1
  dsimp only at b1 d1
  obtain ⟨m1, m2, m3, m4⟩ := hM0
  obtain ⟨T, hT⟩ := rTe_ex hH b0 d0
  obtain ⟨a0, c0, fs0, w0, e1, s0, t0, e4⟩ := m1 (0, 29, 1) (List.mem_of_getElem? (i := 0) rfl)
  obtain rfl : x0 = a0 := Sum.inl.inj (Option.some.inj (Sum.inr.inj (Sum.inr.inj (Option.some.inj (show some (rR x0) = some _ from e1)))))
  obtain rfl : rI x1 = w0 := Option.some.inj (show some (rI x1) = some w0 from e4)
  clear e1 e4
  have f0 : rB3 N K n p 387 [rR x0] σ := by
    obtain ⟨w, e6, e7⟩ := m4 (6193, [0]) (List.mem_of_getElem? (i := 0) rfl)
    obtain rfl : [rR x0] = w := Option.some.inj (show some [rR x0] = some w from e6)
    exact (rF_b (r := 6193) (by decide) rfl).mp e7
  have f0 := ro3_387.mp f0
  clear m1 m2 m3 m4
  have r0 : 0 ≤ (-1 * x1.toInt + 0) + 999 := by
    obtain ⟨v, o, h1, h2⟩ := f0
    cases rOb_u o ⟨b0, d0, _, _, s0, t0⟩
    omega
  have r1 : 0 ≤ (1 * x1.toInt + 0) + 0 := by
    obtain ⟨v, o, h1, h2⟩ := f0
    cases rOb_u o ⟨b0, d0, _, _, s0, t0⟩
    omega
  exact ⟨p, fun _ => rfl, ⟨(fun q h => by cases h), fun q h => (by cases h), (aAllc ⟨_, rfl, r0⟩ (aAllc ⟨_, rfl, r1⟩ (fun f h => by cases h))), (fun f h => by cases h)⟩, [], List.mem_cons_self, fun f h => (by cases h)⟩
theorem rw_rgQ4 {N : Int} {K : Nat → Nat} {n : Nat} {JX : (Nat → jcell) → Prop} : aGho (rH N K n) fa_T K n JX ag_rgQ4 := by
  refine aGho_of ⟨rfl, rfl⟩ ?_
  intro p σ ρ hH hX hA hM0
  have hG := aAG_of hA.1 (fun i e v he hv => (hA.2 i e v he hv).1)
  clear hA
  obtain ⟨v0, v1, rfl, g0, g1⟩ := rA_2 hG
  clear hG
  obtain ⟨x0, rfl, b0, d0⟩ := rG_ref (by decide) g0
  obtain ⟨x1, rfl, b1, d1⟩ := aG_int g1
  dsimp only at b1 d1
  obtain ⟨m1, m2, m3, m4⟩ := hM0
  obtain ⟨T, hT⟩ := rTe_ex hH b0 d0
  obtain ⟨a0, c0, fs0, w0, e1, s0, t0, e4⟩ := m1 (0, 29, 1) (List.mem_of_getElem? (i := 0) rfl)
  obtain rfl : x0 = a0 := Sum.inl.inj (Option.some.inj (Sum.inr.inj (Sum.inr.inj (Option.some.inj (show some (rR x0) = some _ from e1)))))
  obtain rfl : rI x1 = w0 := Option.some.inj (show some (rI x1) = some w0 from e4)
  clear e1 e4
  clear m1 m2 m3 m4
  have q0 : rB3 N K n p 387 [rR x0] σ := ro3_387.mpr (by
    exact ⟨x1, ⟨b0, d0, _, _, s0, t0⟩, b1, d1⟩)
  exact ⟨p, fun _ => rfl, ⟨(fun q h => by cases h), fun q h => (by cases h), (fun f h => by cases h), (aAllc ⟨_, rfl, (rF_b (r := 6193) (by decide) rfl).mpr q0⟩ (fun f h => by cases h))⟩, [], List.mem_cons_self, fun f h => (by cases h)⟩
theorem rw_rgL0 {N : Int} {K : Nat → Nat} {n : Nat} {JX : (Nat → jcell) → Prop} : aGho (rH N K n) fa_T K n JX ag_rgL0 := by
  refine aGho_of ⟨rfl, rfl⟩ ?_
  intro p σ ρ hH hX hA hM0
  have hG := aAG_of hA.1 (fun i e v he hv => (hA.2 i e v he hv).1)
  clear hA
  obtain ⟨v0, v1, v2, rfl, g0, g1, g2⟩ := rA_3 hG
  clear hG
  obtain ⟨x0, rfl, b0, d0⟩ := rG_ref (by decide) g0
  obtain ⟨x1, rfl, b1, d1⟩ := rG_ref (by decide) g1
  obtain ⟨x2, rfl, b2, d2⟩ := aG_int g2
  dsimp only at b2 d2
  obtain ⟨m1, m2, m3, m4⟩ := hM0
  obtain ⟨T, hT⟩ := rTe_ex hH b0 d0
  obtain ⟨M, hM⟩ := rMe_ex hH b1 d1
  clear m1 m2 m3 m4
  have q0 : rB3 N K n p 382 [rR x0, rR x1, rI x2] σ := ro3_382.mpr (by
    obtain ⟨g, rg⟩ := rRo_ex (ko := 62) (f := 24) (kr := 82) (len := 64) hH rfl rfl rfl (by decide) b0 d0
    obtain ⟨h, rh⟩ := rRo_ex (ko := 88) (f := 2) (kr := 90) (len := 64) hH rfl rfl rfl (by decide) b1 d1
    exact ⟨g, h, rg, rh, fun j j0 j1 => by omega⟩)
  exact ⟨p, fun _ => rfl, ⟨(fun q h => by cases h), fun q h => (by cases h), (fun f h => by cases h), (aAllc ⟨_, rfl, (rF_b (r := 6115) (by decide) rfl).mpr q0⟩ (fun f h => by cases h))⟩, [], List.mem_cons_self, fun f h => (by cases h)⟩
theorem rw_rgLs {N : Int} {K : Nat → Nat} {n : Nat} {JX : (Nat → jcell) → Prop} : aGho (rH N K n) fa_T K n JX ag_rgLs := by
  refine aGho_of ⟨rfl, rfl⟩ ?_
  intro p σ ρ hH hX hA hM0
  have hG := aAG_of hA.1 (fun i e v he hv => (hA.2 i e v he hv).1)
  clear hA
  obtain ⟨v0, v1, v2, v3, v4, v5, rfl, g0, g1, g2, g3, g4, g5⟩ := rA_6 hG
  clear hG
  obtain ⟨x0, rfl, b0, d0⟩ := rG_ref (by decide) g0
  obtain ⟨x1, rfl, b1, d1⟩ := rG_ref (by decide) g1
  obtain ⟨x2, rfl, b2, d2⟩ := rG_ref (by decide) g2
  obtain ⟨x3, rfl, b3, d3⟩ := aG_int g3
  dsimp only at b3 d3
  obtain ⟨x4, rfl, b4, d4⟩ := aG_int g4
  dsimp only at b4 d4
  obtain ⟨x5, rfl, b5, d5⟩ := rG_ref (by decide) g5
  obtain ⟨m1, m2, m3, m4⟩ := hM0
  obtain ⟨T, hT⟩ := rTe_ex hH b0 d0
  obtain ⟨M, hM⟩ := rMe_ex hH b1 d1
  obtain ⟨a0, c0, fs0, w0, e1, s0, t0, e4⟩ := m1 (1, 2, 5) (List.mem_of_getElem? (i := 0) rfl)
  obtain rfl : x1 = a0 := Sum.inl.inj (Option.some.inj (Sum.inr.inj (Sum.inr.inj (Option.some.inj (show some (rR x1) = some _ from e1)))))
  obtain rfl : rR x5 = w0 := Option.some.inj (show some (rR x5) = some w0 from e4)
  clear e1 e4
  obtain ⟨a1, c1, fs1, w1, e1, s1, t1, e4⟩ := m1 (0, 24, 2) (List.mem_of_getElem? (i := 1) rfl)
  obtain rfl : x0 = a1 := Sum.inl.inj (Option.some.inj (Sum.inr.inj (Sum.inr.inj (Option.some.inj (show some (rR x0) = some _ from e1)))))
  obtain rfl : rR x2 = w1 := Option.some.inj (show some (rR x2) = some w1 from e4)
  clear e1 e4
  obtain ⟨a, mc0, ty0, gc0, ic0, e1, sc0, jc0, e4, e5⟩ := m2 (5, ([(3, 1)], 0), 4) (List.mem_of_getElem? (i := 0) rfl)
  obtain rfl : x5 = a := Sum.inl.inj (Option.some.inj (Sum.inr.inj (Sum.inr.inj (Option.some.inj (show some (rR x5) = some _ from e1)))))
  obtain ⟨gc0, rfl⟩ : ∃ g, gc0 = .inl g := by
    rcases gc0 with g | g
    · exact ⟨g, rfl⟩
    · exact absurd (show some (rI x4) = some (.inr (.inl (g ic0))) from e5) (fun h => by cases h)
  have sc0 : σ x5 = .inl (ty0, mc0, .inl gc0) := sc0
  have ec0 : x4 = gc0 ic0 := Sum.inl.inj (Option.some.inj (show some (rI x4) = some _ from e5))
  have kc0 : (ic0 : Int) = (1 * x3.toInt + 0) + 0 := by
    obtain ⟨z, e6, e7⟩ := e4
    obtain rfl : (1 * x3.toInt + 0) = z := Option.some.inj (show some (1 * x3.toInt + 0) = some z from e6)
    exact e7
  clear e1 e4 e5
  have y0 : M x3.toInt = x4.toInt := rMg_c hM s0 t0 sc0 (by omega) (by omega) (by omega) ec0
  have f0 : rB3 N K n p 382 [rR x0, rR x1, rI x3] σ := by
    obtain ⟨w, e6, e7⟩ := m4 (6115, [0, 1, 3]) (List.mem_of_getElem? (i := 0) rfl)
    obtain rfl : [rR x0, rR x1, rI x3] = w := Option.some.inj (show some [rR x0, rR x1, rI x3] = some w from e6)
    exact (rF_b (r := 6115) (by decide) rfl).mp e7
  have f0 := ro3_382.mp f0
  clear m1 m2 m3 m4
  have q0 : rB3 N K n p 383 [rR x0, rR x1, rI x3] (jup σ x2 (jsto (σ x2) x3.toNatClampNeg x4)) := ro3_383.mpr (by
    obtain ⟨g, h, rg, rh, kk⟩ := f0
    have e := rRo_c (i := ic0) rh s0 t0 sc0 ec0
    refine ⟨_, h, rRo_up rg s1 t1, rRo_o rh (by omega) (by omega), fun j j0 j1 j2 => ?_⟩
    have hi : x3.toNatClampNeg = x3.toInt.toNat := rfl
    unfold upd
    by_cases cj : j = x3.toInt
    · rw [if_pos (by rw [hi]; omega), cj, show x3.toInt.toNat = ic0 by omega]
      exact e.symm
    · rw [if_neg (by rw [hi]; omega)]
      exact kk j j0 (by omega) j2)
  exact ⟨p, fun _ => rfl, ⟨(fun q h => by cases h), fun q h => (by cases h), (fun f h => by cases h), (aAllc ⟨_, rfl, rF_p (r := 6131) (by decide) (by decide) q0⟩ (fun f h => by cases h))⟩, [], List.mem_cons_self, fun f h => (by cases h)⟩
theorem rw_rgLn {N : Int} {K : Nat → Nat} {n : Nat} {JX : (Nat → jcell) → Prop} : aGho (rH N K n) fa_T K n JX ag_rgLn := by
  refine aGho_of ⟨rfl, rfl⟩ ?_
  intro p σ ρ hH hX hA hM0
  have hG := aAG_of hA.1 (fun i e v he hv => (hA.2 i e v he hv).1)
  clear hA
  obtain ⟨v0, v1, v2, v3, rfl, g0, g1, g2, g3⟩ := rA_4 hG
  clear hG
  obtain ⟨x0, rfl, b0, d0⟩ := rG_ref (by decide) g0
  obtain ⟨x1, rfl, b1, d1⟩ := rG_ref (by decide) g1
  obtain ⟨x2, rfl, b2, d2⟩ := aG_int g2
  dsimp only at b2 d2
  obtain ⟨x3, rfl, b3, d3⟩ := aG_int g3
  dsimp only at b3 d3
  obtain ⟨m1, m2, m3, m4⟩ := hM0
  obtain ⟨T, hT⟩ := rTe_ex hH b0 d0
  obtain ⟨M, hM⟩ := rMe_ex hH b1 d1
  have l0 : 0 ≤ (1 * x3.toInt + (-1 * x2.toInt + 0)) + -1 := by
    obtain ⟨z, e6, e7⟩ := m3 ([(3, 1), (2, -1)], -1) (List.mem_of_getElem? (i := 0) rfl)
    obtain rfl : (1 * x3.toInt + (-1 * x2.toInt + 0)) = z := Option.some.inj (show some (1 * x3.toInt + (-1 * x2.toInt + 0)) = some z from e6)
    exact e7
  have l1 : 0 ≤ (-1 * x3.toInt + (1 * x2.toInt + 0)) + 1 := by
    obtain ⟨z, e6, e7⟩ := m3 ([(3, -1), (2, 1)], 1) (List.mem_of_getElem? (i := 1) rfl)
    obtain rfl : (-1 * x3.toInt + (1 * x2.toInt + 0)) = z := Option.some.inj (show some (-1 * x3.toInt + (1 * x2.toInt + 0)) = some z from e6)
    exact e7
  have f0 : rB3 N K n p 383 [rR x0, rR x1, rI x2] σ := by
    obtain ⟨w, e6, e7⟩ := m4 (6131, [0, 1, 2]) (List.mem_of_getElem? (i := 0) rfl)
    obtain rfl : [rR x0, rR x1, rI x2] = w := Option.some.inj (show some [rR x0, rR x1, rI x2] = some w from e6)
    exact (rF_b (r := 6131) (by decide) rfl).mp e7
  have f0 := ro3_383.mp f0
  clear m1 m2 m3 m4
  have q0 : rB3 N K n p 382 [rR x0, rR x1, rI x3] σ := ro3_382.mpr (by
    obtain ⟨g, h, rg, rh, kk⟩ := f0
    exact ⟨g, h, rg, rh, fun j j0 j1 j2 => kk j j0 (by omega) j2⟩)
  exact ⟨p, fun _ => rfl, ⟨(fun q h => by cases h), fun q h => (by cases h), (fun f h => by cases h), (aAllc ⟨_, rfl, (rF_b (r := 6115) (by decide) rfl).mpr q0⟩ (fun f h => by cases h))⟩, [], List.mem_cons_self, fun f h => (by cases h)⟩
theorem rw_rgLe {N : Int} {K : Nat → Nat} {n : Nat} {JX : (Nat → jcell) → Prop} : aGho (rH N K n) fa_T K n JX ag_rgLe := by
  refine aGho_of ⟨rfl, rfl⟩ ?_
  intro p σ ρ hH hX hA hM0
  have hG := aAG_of hA.1 (fun i e v he hv => (hA.2 i e v he hv).1)
  clear hA
  obtain ⟨v0, v1, v2, v3, v4, v5, rfl, g0, g1, g2, g3, g4, g5⟩ := rA_6 hG
  clear hG
  obtain ⟨x0, rfl, b0, d0⟩ := rG_ref (by decide) g0
  obtain ⟨x1, rfl, b1, d1⟩ := rG_ref (by decide) g1
  obtain ⟨x2, rfl, b2, d2⟩ := aG_int g2
  dsimp only at b2 d2
  obtain ⟨x3, rfl, b3, d3⟩ := aG_int g3
  dsimp only at b3 d3
  obtain ⟨x4, rfl, b4, d4⟩ := aG_int g4
  dsimp only at b4 d4
  obtain ⟨x5, rfl, b5, d5⟩ := aG_int g5
  dsimp only at b5 d5
  obtain ⟨m1, m2, m3, m4⟩ := hM0
  obtain ⟨T, hT⟩ := rTe_ex hH b0 d0
  obtain ⟨M, hM⟩ := rMe_ex hH b1 d1
  obtain ⟨a0, c0, fs0, w0, e1, s0, t0, e4⟩ := m1 (0, 25, 3) (List.mem_of_getElem? (i := 0) rfl)
  obtain rfl : x0 = a0 := Sum.inl.inj (Option.some.inj (Sum.inr.inj (Sum.inr.inj (Option.some.inj (show some (rR x0) = some _ from e1)))))
  obtain rfl : rI x3 = w0 := Option.some.inj (show some (rI x3) = some w0 from e4)
  clear e1 e4
  obtain ⟨a1, c1, fs1, w1, e1, s1, t1, e4⟩ := m1 (0, 26, 4) (List.mem_of_getElem? (i := 1) rfl)
  obtain rfl : x0 = a1 := Sum.inl.inj (Option.some.inj (Sum.inr.inj (Sum.inr.inj (Option.some.inj (show some (rR x0) = some _ from e1)))))
  obtain rfl : rI x4 = w1 := Option.some.inj (show some (rI x4) = some w1 from e4)
  clear e1 e4
  obtain ⟨a2, c2, fs2, w2, e1, s2, t2, e4⟩ := m1 (0, 27, 5) (List.mem_of_getElem? (i := 2) rfl)
  obtain rfl : x0 = a2 := Sum.inl.inj (Option.some.inj (Sum.inr.inj (Sum.inr.inj (Option.some.inj (show some (rR x0) = some _ from e1)))))
  obtain rfl : rI x5 = w2 := Option.some.inj (show some (rI x5) = some w2 from e4)
  clear e1 e4
  obtain ⟨a3, c3, fs3, w3, e1, s3, t3, e4⟩ := m1 (1, 3, 3) (List.mem_of_getElem? (i := 3) rfl)
  obtain rfl : x1 = a3 := Sum.inl.inj (Option.some.inj (Sum.inr.inj (Sum.inr.inj (Option.some.inj (show some (rR x1) = some _ from e1)))))
  obtain rfl : rI x3 = w3 := Option.some.inj (show some (rI x3) = some w3 from e4)
  clear e1 e4
  obtain ⟨a4, c4, fs4, w4, e1, s4, t4, e4⟩ := m1 (1, 4, 4) (List.mem_of_getElem? (i := 4) rfl)
  obtain rfl : x1 = a4 := Sum.inl.inj (Option.some.inj (Sum.inr.inj (Sum.inr.inj (Option.some.inj (show some (rR x1) = some _ from e1)))))
  obtain rfl : rI x4 = w4 := Option.some.inj (show some (rI x4) = some w4 from e4)
  clear e1 e4
  obtain ⟨a5, c5, fs5, w5, e1, s5, t5, e4⟩ := m1 (1, 5, 5) (List.mem_of_getElem? (i := 5) rfl)
  obtain rfl : x1 = a5 := Sum.inl.inj (Option.some.inj (Sum.inr.inj (Sum.inr.inj (Option.some.inj (show some (rR x1) = some _ from e1)))))
  obtain rfl : rI x5 = w5 := Option.some.inj (show some (rI x5) = some w5 from e4)
  clear e1 e4
  have f0 : rB3 N K n p 22 [rR x1] σ := by
    obtain ⟨w, e6, e7⟩ := m4 (353, [1]) (List.mem_of_getElem? (i := 0) rfl)
    obtain rfl : [rR x1] = w := Option.some.inj (show some [rR x1] = some w from e6)
    exact (rF_b (r := 353) (by decide) rfl).mp e7
  obtain ⟨hp, hR⟩ := ro3_22.mp f0
  obtain rfl := rMg_u hM hR.1
  have f1 : rB3 N K n p 382 [rR x0, rR x1, rI x2] σ := by
    obtain ⟨w, e6, e7⟩ := m4 (6115, [0, 1, 2]) (List.mem_of_getElem? (i := 1) rfl)
    obtain rfl : [rR x0, rR x1, rI x2] = w := Option.some.inj (show some [rR x0, rR x1, rI x2] = some w from e6)
    exact (rF_b (r := 6115) (by decide) rfl).mp e7
  have f1 := ro3_382.mp f1
  clear m1 m2 m3 m4
  have q0 : rB3 N K n p 400 [rR x0] σ := ro3_400.mpr (by
    obtain ⟨g, h, rg, rh, kk⟩ := f1
    refine ⟨hp, ?_, ⟨x3, ⟨b0, d0, _, _, s0, t0⟩, (rRX_f hR.2.1 s3 t3).symm⟩, ⟨x4, ⟨b0, d0, _, _, s1, t1⟩, (rRX_f hR.2.2.1 s4 t4).symm⟩, ⟨x5, ⟨b0, d0, _, _, s2, t2⟩, (rRX_f hR.2.2.2 s5 t5).symm⟩⟩
    obtain ⟨h9, rh9, e9⟩ := hR.1
    obtain rfl := rRo_u rh rh9
    rw [e9]
    refine rZ_e rg (fun j hj => ?_) (fun j j0 j1 => ?_)
    · unfold rMn; rw [if_neg hj]
    · unfold rMn; rw [if_pos ⟨j0, j1⟩]; exact kk j j0 (by omega) j1)
  exact ⟨p, fun _ => rfl, ⟨(fun q h => by cases h), fun q h => (by cases h), (fun f h => by cases h), (aAllc ⟨_, rfl, (rF_b (r := 6401) (by decide) rfl).mpr q0⟩ (fun f h => by cases h))⟩, [], List.mem_cons_self, fun f h => (by cases h)⟩
theorem rw_rgLb {N : Int} {K : Nat → Nat} {n : Nat} {JX : (Nat → jcell) → Prop} : aGho (rH N K n) fa_T K n JX ag_rgLb := by
  refine aGho_of ⟨rfl, rfl⟩ ?_
  intro p σ ρ hH hX hA hM0
  have hG := aAG_of hA.1 (fun i e v he hv => (hA.2 i e v he hv).1)
  clear hA
  obtain ⟨v0, v1, rfl, g0, g1⟩ := rA_2 hG
  clear hG
  obtain ⟨x0, rfl, b0, d0⟩ := rG_ref (by decide) g0
  obtain ⟨x1, rfl, b1, d1⟩ := aG_int g1
  dsimp only at b1 d1
  obtain ⟨m1, m2, m3, m4⟩ := hM0
  obtain ⟨T, hT⟩ := rTe_ex hH b0 d0
  obtain ⟨a0, c0, fs0, w0, e1, s0, t0, e4⟩ := m1 (0, 29, 1) (List.mem_of_getElem? (i := 0) rfl)
  obtain rfl : x0 = a0 := Sum.inl.inj (Option.some.inj (Sum.inr.inj (Sum.inr.inj (Option.some.inj (show some (rR x0) = some _ from e1)))))
  obtain rfl : rI x1 = w0 := Option.some.inj (show some (rI x1) = some w0 from e4)
  clear e1 e4
  clear m1 m2 m3 m4
  have q0 : rB3 N K n p 220 [rR x0] σ := ro3_220.mpr (by
    exact ⟨x1, ⟨b0, d0, _, _, s0, t0⟩, b1, d1⟩)
  exact ⟨p, fun _ => rfl, ⟨(fun q h => by cases h), fun q h => (by cases h), (fun f h => by cases h), (aAllc ⟨_, rfl, (rF_b (r := 3521) (by decide) rfl).mpr q0⟩ (fun f h => by cases h))⟩, [], List.mem_cons_self, fun f h => (by cases h)⟩
theorem rw_rgS {N : Int} {K : Nat → Nat} {n : Nat} {JX : (Nat → jcell) → Prop} : aGho (rH N K n) fa_T K n JX ag_rgS := by
  refine aGho_of ⟨rfl, rfl⟩ ?_
  intro p σ ρ hH hX hA hM0
  have hG := aAG_of hA.1 (fun i e v he hv => (hA.2 i e v he hv).1)
  clear hA
  obtain ⟨v0, v1, rfl, g0, g1⟩ := rA_2 hG
  clear hG
  obtain ⟨x0, rfl, b0, d0⟩ := rG_ref (by decide) g0
  obtain ⟨x1, rfl, b1, d1⟩ := aG_int g1
  dsimp only at b1 d1
  obtain ⟨m1, m2, m3, m4⟩ := hM0
  obtain ⟨M, hM⟩ := rMe_ex hH b0 d0
  have f0 : rB3 N K n p 386 [rR x0, rI x1] σ := by
    obtain ⟨w, e6, e7⟩ := m4 (6178, [0, 1]) (List.mem_of_getElem? (i := 0) rfl)
    obtain rfl : [rR x0, rI x1] = w := Option.some.inj (show some [rR x0, rI x1] = some w from e6)
    exact (rF_b (r := 6178) (by decide) rfl).mp e7
  have f0 := ro3_386.mp f0
  clear m1 m2 m3 m4
  obtain ⟨⟨M1, v, P, hm, o1, o2, h1, h2, h3⟩, M2, hm2, h4⟩ := f0 (by omega)
  obtain rfl := rMg_u hm hm2
  obtain ⟨R, hR⟩ : ∃ R : Int32, rOb K n σ x0 88 4 (rI R) := rRb9 hH b0 d0
  obtain ⟨v0, v1⟩ := rSd9 hH b0 d0 o1
  have q0 : rB3 N K n (((M1, v.toInt, R.toInt, P.toInt), none) : rP) 22 [rR x0] σ := ro3_22.mpr (by
    exact ⟨rfl, hm, ⟨v, o1, rfl⟩, ⟨R, hR, rfl⟩, ⟨P, o2, rfl⟩⟩)
  have q1 : rB3 N K n (((M1, v.toInt, R.toInt, P.toInt), none) : rP) 24 [] σ := ro3_24.mpr (by
    exact ⟨v0, v1, h4, h1, h2, h3⟩)
  exact ⟨(((M1, v.toInt, R.toInt, P.toInt), none) : rP), fun h => (by cases h), ⟨(fun q h => by cases h), fun q h => (by cases h), (fun f h => by cases h), (aAllc ⟨_, rfl, (rF_b (r := 353) (by decide) rfl).mpr q0⟩ (aAllc ⟨_, rfl, (rF_b (r := 384) (by decide) rfl).mpr q1⟩ (fun f h => by cases h)))⟩, [], List.mem_cons_self, fun f h => (by cases h)⟩
theorem rw_rgT {N : Int} {K : Nat → Nat} {n : Nat} {JX : (Nat → jcell) → Prop} : aGho (rH N K n) fa_T K n JX ag_rgT := by
  refine aGho_of ⟨rfl, rfl⟩ ?_
  intro p σ ρ hH hX hA hM0
  have hG := aAG_of hA.1 (fun i e v he hv => (hA.2 i e v he hv).1)
  clear hA
  obtain ⟨v0, rfl, g0⟩ := rA_1 hG
  clear hG
  obtain ⟨x0, rfl, b0, d0⟩ := rG_ref (by decide) g0
  obtain ⟨m1, m2, m3, m4⟩ := hM0
  obtain ⟨T, hT⟩ := rTe_ex hH b0 d0
  have f0 : rB3 N K n p 400 [rR x0] σ := by
    obtain ⟨w, e6, e7⟩ := m4 (6401, [0]) (List.mem_of_getElem? (i := 0) rfl)
    obtain rfl : [rR x0] = w := Option.some.inj (show some [rR x0] = some w from e6)
    exact (rF_b (r := 6401) (by decide) rfl).mp e7
  obtain ⟨hp, hR⟩ := ro3_400.mp f0
  obtain rfl := rMg_u hT hR.1
  have f1 : rB3 N K n p 24 [] σ := by
    obtain ⟨w, e6, e7⟩ := m4 (384, []) (List.mem_of_getElem? (i := 1) rfl)
    obtain rfl : [] = w := Option.some.inj (show some [] = some w from e6)
    exact (rF_b (r := 384) (by decide) rfl).mp e7
  have f1 := ro3_24.mp f1
  clear m1 m2 m3 m4
  have q0 : rB3 N K n p 282 [rR x0] σ := ro3_282_1.mpr (by
    exact ⟨p.1, hR, f1⟩)
  exact ⟨p, fun _ => rfl, ⟨(fun q h => by cases h), fun q h => (by cases h), (fun f h => by cases h), (aAllc ⟨_, rfl, (rF_b (r := 4513) (by decide) rfl).mpr q0⟩ (fun f h => by cases h))⟩, [], List.mem_cons_self, fun f h => (by cases h)⟩
theorem rw_riP0 {N : Int} {K : Nat → Nat} {n : Nat} {JX : (Nat → jcell) → Prop} : aGho (rH N K n) fa_T K n JX ag_riP0 := by
  refine aGho_of ⟨rfl, rfl⟩ ?_
  intro p σ ρ hH hX hA hM0
  have hG := aAG_of hA.1 (fun i e v he hv => (hA.2 i e v he hv).1)
  clear hA
  obtain ⟨v0, v1, v2, v3, v4, rfl, g0, g1, g2, g3, g4⟩ := rA_5 hG
  clear hG
  obtain ⟨x0, rfl, b0, d0⟩ := rG_ref (by decide) g0
  obtain ⟨x1, rfl, b1, d1⟩ := rG_ref (by decide) g1
  obtain ⟨x2, rfl, b2, d2⟩ := aG_int g2
  dsimp only at b2 d2
  obtain ⟨x3, rfl, b3, d3⟩ := aG_int g3
  dsimp only at b3 d3
  obtain ⟨x4, rfl, b4, d4⟩ := aG_int g4
  dsimp only at b4 d4
  obtain ⟨m1, m2, m3, m4⟩ := hM0
  obtain ⟨T, hT⟩ := rTe_ex hH b1 d1
  have f0 : rB3 N K n p 241 [rR x1, rI x2, rI x3] σ := by
    obtain ⟨w, e6, e7⟩ := m4 (3859, [1, 2, 3]) (List.mem_of_getElem? (i := 0) rfl)
    obtain rfl : [rR x1, rI x2, rI x3] = w := Option.some.inj (show some [rR x1, rI x2, rI x3] = some w from e6)
    exact (rF_b (r := 3859) (by decide) rfl).mp e7
  obtain ⟨C, y, hY, f0⟩ := ro3_241.mp f0
  clear m1 m2 m3 m4
  have q0 : rB3 N K n p 389 [rR x0, rR x1, rI x2, rI x3, rI x4, rI x3] σ := ro3_389.mpr (by
    obtain ⟨g, r⟩ := rRo_ex (ko := 55) (f := 17) (kr := 60) (len := 301) hH rfl rfl rfl (by decide) b0 d0
    refine ⟨C, y, hY, f0.1, f0.2, b4, ⟨g, r, fun i i0 i1 => by omega⟩, ?_, f0.1, f0.2⟩
    rw [show x4.toInt.toNat = 0 by omega]
    rfl)
  exact ⟨p, fun _ => rfl, ⟨(fun q h => by cases h), fun q h => (by cases h), (fun f h => by cases h), (aAllc ⟨_, rfl, (rF_b (r := 6230) (by decide) rfl).mpr q0⟩ (fun f h => by cases h))⟩, [], List.mem_cons_self, fun f h => (by cases h)⟩
theorem rw_riPs {N : Int} {K : Nat → Nat} {n : Nat} {JX : (Nat → jcell) → Prop} : aGho (rH N K n) fa_T K n JX ag_riPs := by
  refine aGho_of ⟨rfl, rfl⟩ ?_
  intro p σ ρ hH hX hA hM0
  have hG := aAG_of hA.1 (fun i e v he hv => (hA.2 i e v he hv).1)
  clear hA
  obtain ⟨v0, v1, v2, v3, v4, v5, v6, rfl, g0, g1, g2, g3, g4, g5, g6⟩ := rA_7 hG
  clear hG
  obtain ⟨x0, rfl, b0, d0⟩ := rG_ref (by decide) g0
  obtain ⟨x1, rfl, b1, d1⟩ := rG_ref (by decide) g1
  obtain ⟨x2, rfl, b2, d2⟩ := rG_ref (by decide) g2
  obtain ⟨x3, rfl, b3, d3⟩ := aG_int g3
  dsimp only at b3 d3
  obtain ⟨x4, rfl, b4, d4⟩ := aG_int g4
  dsimp only at b4 d4
  obtain ⟨x5, rfl, b5, d5⟩ := aG_int g5
  dsimp only at b5 d5
  obtain ⟨x6, rfl, b6, d6⟩ := aG_int g6
  dsimp only at b6 d6
  obtain ⟨m1, m2, m3, m4⟩ := hM0
  obtain ⟨T, hT⟩ := rTe_ex hH b1 d1
  obtain ⟨a0, c0, fs0, w0, e1, s0, t0, e4⟩ := m1 (0, 17, 2) (List.mem_of_getElem? (i := 0) rfl)
  obtain rfl : x0 = a0 := Sum.inl.inj (Option.some.inj (Sum.inr.inj (Sum.inr.inj (Option.some.inj (show some (rR x0) = some _ from e1)))))
  obtain rfl : rR x2 = w0 := Option.some.inj (show some (rR x2) = some w0 from e4)
  clear e1 e4
  have f0 : rB3 N K n p 389 [rR x0, rR x1, rI x3, rI x4, rI x5, rI x6] σ := by
    obtain ⟨w, e6, e7⟩ := m4 (6230, [0, 1, 3, 4, 5, 6]) (List.mem_of_getElem? (i := 0) rfl)
    obtain rfl : [rR x0, rR x1, rI x3, rI x4, rI x5, rI x6] = w := Option.some.inj (show some [rR x0, rR x1, rI x3, rI x4, rI x5, rI x6] = some w from e6)
    exact (rF_b (r := 6230) (by decide) rfl).mp e7
  have f0 := ro3_389.mp f0
  clear m1 m2 m3 m4
  have q0 : rB3 N K n p 390 [rR x0, rR x1, rI x3, rI x4, rI x5, rI x6] (jup σ x2 (jsto (σ x2) x5.toNatClampNeg x6)) := ro3_390.mpr (by
    obtain ⟨C, y, hY, k1, k2, k3, ⟨g, r, k4⟩, k5, k6, k7⟩ := f0
    refine ⟨C, y, rTY_p60 hY d2, k1, k2, k3, ⟨_, rRo_up r s0 t0, fun i i0 i1 => ?_⟩, k5, b6, k7⟩
    have hi : x5.toNatClampNeg = x5.toInt.toNat := rfl
    unfold upd
    by_cases ci : i = x5.toInt
    · rw [if_pos (by rw [hi]; omega), ci]
      omega
    · rw [if_neg (by rw [hi]; omega)]
      exact k4 i i0 (by omega))
  exact ⟨p, fun _ => rfl, ⟨(fun q h => by cases h), fun q h => (by cases h), (fun f h => by cases h), (aAllc ⟨_, rfl, rF_p (r := 6246) (by decide) (by decide) q0⟩ (fun f h => by cases h))⟩, [], List.mem_cons_self, fun f h => (by cases h)⟩
theorem rw_riPn {N : Int} {K : Nat → Nat} {n : Nat} {JX : (Nat → jcell) → Prop} : aGho (rH N K n) fa_T K n JX ag_riPn := by
  refine aGho_of ⟨rfl, rfl⟩ ?_
  intro p σ ρ hH hX hA hM0
  have hG := aAG_of hA.1 (fun i e v he hv => (hA.2 i e v he hv).1)
  clear hA
  obtain ⟨v0, v1, v2, v3, v4, v5, v6, v7, v8, rfl, g0, g1, g2, g3, g4, g5, g6, g7, g8⟩ := rA_9 hG
  clear hG
  obtain ⟨x0, rfl, b0, d0⟩ := rG_ref (by decide) g0
  obtain ⟨x1, rfl, b1, d1⟩ := rG_ref (by decide) g1
  obtain ⟨x2, rfl, b2, d2⟩ := aG_int g2
  dsimp only at b2 d2
  obtain ⟨x3, rfl, b3, d3⟩ := aG_int g3
  dsimp only at b3 d3
  obtain ⟨x4, rfl, b4, d4⟩ := aG_int g4
  dsimp only at b4 d4
  obtain ⟨x5, rfl, b5, d5⟩ := aG_int g5
  dsimp only at b5 d5
  obtain ⟨x6, rfl, b6, d6⟩ := aG_int g6
  dsimp only at b6 d6
  obtain ⟨x7, rfl, b7, d7⟩ := aG_int g7
  dsimp only at b7 d7
  obtain ⟨x8, rfl, b8, d8⟩ := rG_ref (by decide) g8
  obtain ⟨m1, m2, m3, m4⟩ := hM0
  obtain ⟨T, hT⟩ := rTe_ex hH b1 d1
  obtain ⟨a0, c0, fs0, w0, e1, s0, t0, e4⟩ := m1 (1, 8, 8) (List.mem_of_getElem? (i := 0) rfl)
  obtain rfl : x1 = a0 := Sum.inl.inj (Option.some.inj (Sum.inr.inj (Sum.inr.inj (Option.some.inj (show some (rR x1) = some _ from e1)))))
  obtain rfl : rR x8 = w0 := Option.some.inj (show some (rR x8) = some w0 from e4)
  clear e1 e4
  obtain ⟨a, mc0, ty0, gc0, ic0, e1, sc0, jc0, e4, e5⟩ := m2 (8, ([(2, 301), (5, 1)], 0), 7) (List.mem_of_getElem? (i := 0) rfl)
  obtain rfl : x8 = a := Sum.inl.inj (Option.some.inj (Sum.inr.inj (Sum.inr.inj (Option.some.inj (show some (rR x8) = some _ from e1)))))
  obtain ⟨gc0, rfl⟩ : ∃ g, gc0 = .inl g := by
    rcases gc0 with g | g
    · exact ⟨g, rfl⟩
    · exact absurd (show some (rI x7) = some (.inr (.inl (g ic0))) from e5) (fun h => by cases h)
  have sc0 : σ x8 = .inl (ty0, mc0, .inl gc0) := sc0
  have ec0 : x7 = gc0 ic0 := Sum.inl.inj (Option.some.inj (show some (rI x7) = some _ from e5))
  have kc0 : (ic0 : Int) = (301 * x2.toInt + (1 * x5.toInt + 0)) + 0 := by
    obtain ⟨z, e6, e7⟩ := e4
    obtain rfl : (301 * x2.toInt + (1 * x5.toInt + 0)) = z := Option.some.inj (show some (301 * x2.toInt + (1 * x5.toInt + 0)) = some z from e6)
    exact e7
  clear e1 e4 e5
  have l0 : 0 ≤ (1 * x6.toInt + (-1 * x4.toInt + 0)) + -1 := by
    obtain ⟨z, e6, e7⟩ := m3 ([(6, 1), (4, -1)], -1) (List.mem_of_getElem? (i := 0) rfl)
    obtain rfl : (1 * x6.toInt + (-1 * x4.toInt + 0)) = z := Option.some.inj (show some (1 * x6.toInt + (-1 * x4.toInt + 0)) = some z from e6)
    exact e7
  have l1 : 0 ≤ (-1 * x6.toInt + (1 * x4.toInt + 0)) + 1 := by
    obtain ⟨z, e6, e7⟩ := m3 ([(6, -1), (4, 1)], 1) (List.mem_of_getElem? (i := 1) rfl)
    obtain rfl : (-1 * x6.toInt + (1 * x4.toInt + 0)) = z := Option.some.inj (show some (-1 * x6.toInt + (1 * x4.toInt + 0)) = some z from e6)
    exact e7
  have f0 : rB3 N K n p 390 [rR x0, rR x1, rI x2, rI x3, rI x4, rI x5] σ := by
    obtain ⟨w, e6, e7⟩ := m4 (6246, [0, 1, 2, 3, 4, 5]) (List.mem_of_getElem? (i := 0) rfl)
    obtain rfl : [rR x0, rR x1, rI x2, rI x3, rI x4, rI x5] = w := Option.some.inj (show some [rR x0, rR x1, rI x2, rI x3, rI x4, rI x5] = some w from e6)
    exact (rF_b (r := 6246) (by decide) rfl).mp e7
  have f0 := ro3_390.mp f0
  clear m1 m2 m3 m4
  obtain ⟨C, y, hY, k1, k2, k3, ⟨g, r, k4⟩, k5, k6, k7⟩ := f0
  have y0 : y.1 x5.toInt = x7.toInt := rSc_c hY.1.1 s0 t0 sc0 ec0 (by omega)
  have hpr := hY.2.2.2.1 x5.toInt k6 k7
  rw [y0] at hpr
  have r0 : 0 ≤ (1 * x7.toInt + 0) + 0 := by
    omega
  have r1 : 0 ≤ (1 * x5.toInt + (-1 * x7.toInt + 0)) + -1 := by
    omega
  have q0 : rB3 N K n p 389 [rR x0, rR x1, rI x2, rI x3, rI x6, rI x7] σ := ro3_389.mpr (by
    refine ⟨C, y, hY, k1, k2, by omega, ⟨g, r, fun i i0 i1 => k4 i i0 (by omega)⟩, ?_, hpr.1, by omega⟩
    rw [show x6.toInt.toNat = x4.toInt.toNat + 1 by omega]
    show x7.toInt = y.1 (rUa y.1 x4.toInt.toNat x3.toInt)
    rw [← k5, y0])
  exact ⟨p, fun _ => rfl, ⟨(fun q h => by cases h), fun q h => (by cases h), (aAllc ⟨_, rfl, r0⟩ (aAllc ⟨_, rfl, r1⟩ (fun f h => by cases h))), (aAllc ⟨_, rfl, (rF_b (r := 6230) (by decide) rfl).mpr q0⟩ (fun f h => by cases h))⟩, [], List.mem_cons_self, fun f h => (by cases h)⟩
theorem rw_riPe {N : Int} {K : Nat → Nat} {n : Nat} {JX : (Nat → jcell) → Prop} : aGho (rH N K n) fa_T K n JX ag_riPe := by
  refine aGho_of ⟨rfl, rfl⟩ ?_
  intro p σ ρ hH hX hA hM0
  have hG := aAG_of hA.1 (fun i e v he hv => (hA.2 i e v he hv).1)
  clear hA
  obtain ⟨v0, v1, v2, v3, v4, v5, rfl, g0, g1, g2, g3, g4, g5⟩ := rA_6 hG
  clear hG
  obtain ⟨x0, rfl, b0, d0⟩ := rG_ref (by decide) g0
  obtain ⟨x1, rfl, b1, d1⟩ := rG_ref (by decide) g1
  obtain ⟨x2, rfl, b2, d2⟩ := aG_int g2
  dsimp only at b2 d2
  obtain ⟨x3, rfl, b3, d3⟩ := aG_int g3
  dsimp only at b3 d3
  obtain ⟨x4, rfl, b4, d4⟩ := aG_int g4
  dsimp only at b4 d4
  obtain ⟨x5, rfl, b5, d5⟩ := aG_int g5
  dsimp only at b5 d5
  obtain ⟨m1, m2, m3, m4⟩ := hM0
  obtain ⟨T, hT⟩ := rTe_ex hH b1 d1
  have f0 : rB3 N K n p 389 [rR x0, rR x1, rI x2, rI x3, rI x4, rI x5] σ := by
    obtain ⟨w, e6, e7⟩ := m4 (6230, [0, 1, 2, 3, 4, 5]) (List.mem_of_getElem? (i := 0) rfl)
    obtain rfl : [rR x0, rR x1, rI x2, rI x3, rI x4, rI x5] = w := Option.some.inj (show some [rR x0, rR x1, rI x2, rI x3, rI x4, rI x5] = some w from e6)
    exact (rF_b (r := 6230) (by decide) rfl).mp e7
  have f0 := ro3_389.mp f0
  clear m1 m2 m3 m4
  have q0 : rB3 N K n p 391 [rR x0, rR x1, rI x2, rI x3, rI x4] σ := ro3_391.mpr (by
    obtain ⟨C, y, hY, k1, k2, k3, k4, k5, k6, k7⟩ := f0
    exact ⟨C, y, hY, k1, k2, k3, k4, by rw [← k5]; omega⟩)
  exact ⟨p, fun _ => rfl, ⟨(fun q h => by cases h), fun q h => (by cases h), (fun f h => by cases h), (aAllc ⟨_, rfl, (rF_b (r := 6261) (by decide) rfl).mpr q0⟩ (fun f h => by cases h))⟩, [], List.mem_cons_self, fun f h => (by cases h)⟩
theorem rw_riM0 {N : Int} {K : Nat → Nat} {n : Nat} {JX : (Nat → jcell) → Prop} : aGho (rH N K n) fa_T K n JX ag_riM0 := by
  refine aGho_of ⟨rfl, rfl⟩ ?_
  intro p σ ρ hH hX hA hM0
  have hG := aAG_of hA.1 (fun i e v he hv => (hA.2 i e v he hv).1)
  clear hA
  obtain ⟨v0, v1, v2, v3, rfl, g0, g1, g2, g3⟩ := rA_4 hG
  clear hG
  obtain ⟨x0, rfl, b0, d0⟩ := rG_ref (by decide) g0
  obtain ⟨x1, rfl, b1, d1⟩ := rG_ref (by decide) g1
  obtain ⟨x2, rfl, b2, d2⟩ := aG_int g2
  dsimp only at b2 d2
  obtain ⟨x3, rfl, b3, d3⟩ := aG_int g3
  dsimp only at b3 d3
  obtain ⟨m1, m2, m3, m4⟩ := hM0
  obtain ⟨M, hM⟩ := rMe_ex hH b0 d0
  obtain ⟨T, hT⟩ := rTe_ex hH b1 d1
  clear m1 m2 m3 m4
  have q0 : rB3 N K n p 392 [rR x0, rR x1, rI x2, rI x3] σ := ro3_392.mpr (by
    obtain ⟨gm, rm⟩ := rRo_ex (ko := 88) (f := 2) (kr := 90) (len := 64) hH rfl rfl rfl (by decide) b0 d0
    obtain ⟨g5, r5⟩ := rRo_ex (ko := 62) (f := 16) (kr := 74) (len := 128) hH rfl rfl rfl (by decide) b1 d1
    exact ⟨b2, g5, gm, r5, rm, fun j j0 j1 => by omega⟩)
  exact ⟨p, fun _ => rfl, ⟨(fun q h => by cases h), fun q h => (by cases h), (fun f h => by cases h), (aAllc ⟨_, rfl, (rF_b (r := 6276) (by decide) rfl).mpr q0⟩ (fun f h => by cases h))⟩, [], List.mem_cons_self, fun f h => (by cases h)⟩
theorem rw_riMs {N : Int} {K : Nat → Nat} {n : Nat} {JX : (Nat → jcell) → Prop} : aGho (rH N K n) fa_T K n JX ag_riMs := by
  refine aGho_of ⟨rfl, rfl⟩ ?_
  intro p σ ρ hH hX hA hM0
  have hG := aAG_of hA.1 (fun i e v he hv => (hA.2 i e v he hv).1)
  clear hA
  obtain ⟨v0, v1, v2, v3, v4, v5, v6, rfl, g0, g1, g2, g3, g4, g5, g6⟩ := rA_7 hG
  clear hG
  obtain ⟨x0, rfl, b0, d0⟩ := rG_ref (by decide) g0
  obtain ⟨x1, rfl, b1, d1⟩ := rG_ref (by decide) g1
  obtain ⟨x2, rfl, b2, d2⟩ := rG_ref (by decide) g2
  obtain ⟨x3, rfl, b3, d3⟩ := aG_int g3
  dsimp only at b3 d3
  obtain ⟨x4, rfl, b4, d4⟩ := aG_int g4
  dsimp only at b4 d4
  obtain ⟨x5, rfl, b5, d5⟩ := aG_int g5
  dsimp only at b5 d5
  obtain ⟨x6, rfl, b6, d6⟩ := rG_ref (by decide) g6
  obtain ⟨m1, m2, m3, m4⟩ := hM0
  obtain ⟨M, hM⟩ := rMe_ex hH b0 d0
  obtain ⟨T, hT⟩ := rTe_ex hH b1 d1
  obtain ⟨a0, c0, fs0, w0, e1, s0, t0, e4⟩ := m1 (1, 16, 6) (List.mem_of_getElem? (i := 0) rfl)
  obtain rfl : x1 = a0 := Sum.inl.inj (Option.some.inj (Sum.inr.inj (Sum.inr.inj (Option.some.inj (show some (rR x1) = some _ from e1)))))
  obtain rfl : rR x6 = w0 := Option.some.inj (show some (rR x6) = some w0 from e4)
  clear e1 e4
  obtain ⟨a1, c1, fs1, w1, e1, s1, t1, e4⟩ := m1 (0, 2, 2) (List.mem_of_getElem? (i := 1) rfl)
  obtain rfl : x0 = a1 := Sum.inl.inj (Option.some.inj (Sum.inr.inj (Sum.inr.inj (Option.some.inj (show some (rR x0) = some _ from e1)))))
  obtain rfl : rR x2 = w1 := Option.some.inj (show some (rR x2) = some w1 from e4)
  clear e1 e4
  obtain ⟨a, mc0, ty0, gc0, ic0, e1, sc0, jc0, e4, e5⟩ := m2 (6, ([(3, 64), (4, 1)], 0), 5) (List.mem_of_getElem? (i := 0) rfl)
  obtain rfl : x6 = a := Sum.inl.inj (Option.some.inj (Sum.inr.inj (Sum.inr.inj (Option.some.inj (show some (rR x6) = some _ from e1)))))
  obtain ⟨gc0, rfl⟩ : ∃ g, gc0 = .inl g := by
    rcases gc0 with g | g
    · exact ⟨g, rfl⟩
    · exact absurd (show some (rI x5) = some (.inr (.inl (g ic0))) from e5) (fun h => by cases h)
  have sc0 : σ x6 = .inl (ty0, mc0, .inl gc0) := sc0
  have ec0 : x5 = gc0 ic0 := Sum.inl.inj (Option.some.inj (show some (rI x5) = some _ from e5))
  have kc0 : (ic0 : Int) = (64 * x3.toInt + (1 * x4.toInt + 0)) + 0 := by
    obtain ⟨z, e6, e7⟩ := e4
    obtain rfl : (64 * x3.toInt + (1 * x4.toInt + 0)) = z := Option.some.inj (show some (64 * x3.toInt + (1 * x4.toInt + 0)) = some z from e6)
    exact e7
  clear e1 e4 e5
  have f0 : rB3 N K n p 392 [rR x0, rR x1, rI x3, rI x4] σ := by
    obtain ⟨w, e6, e7⟩ := m4 (6276, [0, 1, 3, 4]) (List.mem_of_getElem? (i := 0) rfl)
    obtain rfl : [rR x0, rR x1, rI x3, rI x4] = w := Option.some.inj (show some [rR x0, rR x1, rI x3, rI x4] = some w from e6)
    exact (rF_b (r := 6276) (by decide) rfl).mp e7
  have f0 := ro3_392.mp f0
  clear m1 m2 m3 m4
  have q0 : rB3 N K n p 393 [rR x0, rR x1, rI x3, rI x4] (jup σ x2 (jsto (σ x2) x4.toNatClampNeg x5)) := ro3_393.mpr (by
    obtain ⟨k0, g5, gm, r5, rm, kk⟩ := f0
    have e5 := rRo_c (i := ic0) r5 s0 t0 sc0 ec0
    refine ⟨k0, g5, _, rRo_o r5 (by omega) (by omega), rRo_up rm s1 t1, fun j j0 j1 j2 => ?_⟩
    have hi : x4.toNatClampNeg = x4.toInt.toNat := rfl
    unfold upd
    by_cases cj : j = x4.toInt
    · rw [if_pos (by rw [hi]; omega), cj, show (64 * x3.toInt + x4.toInt).toNat = ic0 by omega]
      exact e5.symm
    · rw [if_neg (by rw [hi]; omega)]
      exact kk j j0 (by omega) j2)
  exact ⟨p, fun _ => rfl, ⟨(fun q h => by cases h), fun q h => (by cases h), (fun f h => by cases h), (aAllc ⟨_, rfl, rF_p (r := 6292) (by decide) (by decide) q0⟩ (fun f h => by cases h))⟩, [], List.mem_cons_self, fun f h => (by cases h)⟩
theorem rw_riMn {N : Int} {K : Nat → Nat} {n : Nat} {JX : (Nat → jcell) → Prop} : aGho (rH N K n) fa_T K n JX ag_riMn := by
  refine aGho_of ⟨rfl, rfl⟩ ?_
  intro p σ ρ hH hX hA hM0
  have hG := aAG_of hA.1 (fun i e v he hv => (hA.2 i e v he hv).1)
  clear hA
  obtain ⟨v0, v1, v2, v3, v4, rfl, g0, g1, g2, g3, g4⟩ := rA_5 hG
  clear hG
  obtain ⟨x0, rfl, b0, d0⟩ := rG_ref (by decide) g0
  obtain ⟨x1, rfl, b1, d1⟩ := rG_ref (by decide) g1
  obtain ⟨x2, rfl, b2, d2⟩ := aG_int g2
  dsimp only at b2 d2
  obtain ⟨x3, rfl, b3, d3⟩ := aG_int g3
  dsimp only at b3 d3
  obtain ⟨x4, rfl, b4, d4⟩ := aG_int g4
  dsimp only at b4 d4
  obtain ⟨m1, m2, m3, m4⟩ := hM0
  obtain ⟨M, hM⟩ := rMe_ex hH b0 d0
  obtain ⟨T, hT⟩ := rTe_ex hH b1 d1
  have l0 : 0 ≤ (1 * x4.toInt + (-1 * x3.toInt + 0)) + -1 := by
    obtain ⟨z, e6, e7⟩ := m3 ([(4, 1), (3, -1)], -1) (List.mem_of_getElem? (i := 0) rfl)
    obtain rfl : (1 * x4.toInt + (-1 * x3.toInt + 0)) = z := Option.some.inj (show some (1 * x4.toInt + (-1 * x3.toInt + 0)) = some z from e6)
    exact e7
  have l1 : 0 ≤ (-1 * x4.toInt + (1 * x3.toInt + 0)) + 1 := by
    obtain ⟨z, e6, e7⟩ := m3 ([(4, -1), (3, 1)], 1) (List.mem_of_getElem? (i := 1) rfl)
    obtain rfl : (-1 * x4.toInt + (1 * x3.toInt + 0)) = z := Option.some.inj (show some (-1 * x4.toInt + (1 * x3.toInt + 0)) = some z from e6)
    exact e7
  have f0 : rB3 N K n p 393 [rR x0, rR x1, rI x2, rI x3] σ := by
    obtain ⟨w, e6, e7⟩ := m4 (6292, [0, 1, 2, 3]) (List.mem_of_getElem? (i := 0) rfl)
    obtain rfl : [rR x0, rR x1, rI x2, rI x3] = w := Option.some.inj (show some [rR x0, rR x1, rI x2, rI x3] = some w from e6)
    exact (rF_b (r := 6292) (by decide) rfl).mp e7
  have f0 := ro3_393.mp f0
  clear m1 m2 m3 m4
  have q0 : rB3 N K n p 392 [rR x0, rR x1, rI x2, rI x4] σ := ro3_392.mpr (by
    obtain ⟨k0, g5, gm, r5, rm, kk⟩ := f0
    exact ⟨k0, g5, gm, r5, rm, fun j j0 j1 j2 => kk j j0 (by omega) j2⟩)
  exact ⟨p, fun _ => rfl, ⟨(fun q h => by cases h), fun q h => (by cases h), (fun f h => by cases h), (aAllc ⟨_, rfl, (rF_b (r := 6276) (by decide) rfl).mpr q0⟩ (fun f h => by cases h))⟩, [], List.mem_cons_self, fun f h => (by cases h)⟩
theorem rw_riS0 {N : Int} {K : Nat → Nat} {n : Nat} {JX : (Nat → jcell) → Prop} : aGho (rH N K n) fa_T K n JX ag_riS0 := by
  refine aGho_of ⟨rfl, rfl⟩ ?_
  intro p σ ρ hH hX hA hM0
  have hG := aAG_of hA.1 (fun i e v he hv => (hA.2 i e v he hv).1)
  clear hA
  obtain ⟨v0, v1, v2, v3, v4, v5, v6, v7, v8, v9, rfl, g0, g1, g2, g3, g4, g5, g6, g7, g8, g9⟩ := rA_10 hG
  clear hG
  obtain ⟨x0, rfl, b0, d0⟩ := rG_ref (by decide) g0
  obtain ⟨x1, rfl, b1, d1⟩ := rG_ref (by decide) g1
  obtain ⟨x2, rfl, b2, d2⟩ := rG_ref (by decide) g2
  obtain ⟨x3, rfl, b3, d3⟩ := aG_int g3
  dsimp only at b3 d3
  obtain ⟨x4, rfl, b4, d4⟩ := aG_int g4
  dsimp only at b4 d4
  obtain ⟨x5, rfl, b5, d5⟩ := aG_int g5
  dsimp only at b5 d5
  obtain ⟨x6, rfl, b6, d6⟩ := aG_int g6
  dsimp only at b6 d6
  obtain ⟨x7, rfl, b7, d7⟩ := aG_int g7
  dsimp only at b7 d7
  obtain ⟨x8, rfl, b8, d8⟩ := aG_int g8
  dsimp only at b8 d8
  obtain ⟨x9, rfl, b9, d9⟩ := aG_int g9
  dsimp only at b9 d9
  obtain ⟨m1, m2, m3, m4⟩ := hM0
  obtain ⟨T, hT⟩ := rTe_ex hH b1 d1
  obtain ⟨M, hM⟩ := rMe_ex hH b2 d2
  obtain ⟨a0, c0, fs0, w0, e1, s0, t0, e4⟩ := m1 (2, 3, 7) (List.mem_of_getElem? (i := 0) rfl)
  obtain rfl : x2 = a0 := Sum.inl.inj (Option.some.inj (Sum.inr.inj (Sum.inr.inj (Option.some.inj (show some (rR x2) = some _ from e1)))))
  obtain rfl : rI x7 = w0 := Option.some.inj (show some (rI x7) = some w0 from e4)
  clear e1 e4
  obtain ⟨a1, c1, fs1, w1, e1, s1, t1, e4⟩ := m1 (2, 4, 8) (List.mem_of_getElem? (i := 1) rfl)
  obtain rfl : x2 = a1 := Sum.inl.inj (Option.some.inj (Sum.inr.inj (Sum.inr.inj (Option.some.inj (show some (rR x2) = some _ from e1)))))
  obtain rfl : rI x8 = w1 := Option.some.inj (show some (rI x8) = some w1 from e4)
  clear e1 e4
  obtain ⟨a2, c2, fs2, w2, e1, s2, t2, e4⟩ := m1 (2, 5, 9) (List.mem_of_getElem? (i := 2) rfl)
  obtain rfl : x2 = a2 := Sum.inl.inj (Option.some.inj (Sum.inr.inj (Sum.inr.inj (Option.some.inj (show some (rR x2) = some _ from e1)))))
  obtain rfl : rI x9 = w2 := Option.some.inj (show some (rI x9) = some w2 from e4)
  clear e1 e4
  have f0 : rB3 N K n p 391 [rR x0, rR x1, rI x3, rI x4, rI x5] σ := by
    obtain ⟨w, e6, e7⟩ := m4 (6261, [0, 1, 3, 4, 5]) (List.mem_of_getElem? (i := 0) rfl)
    obtain rfl : [rR x0, rR x1, rI x3, rI x4, rI x5] = w := Option.some.inj (show some [rR x0, rR x1, rI x3, rI x4, rI x5] = some w from e6)
    exact (rF_b (r := 6261) (by decide) rfl).mp e7
  have f0 := ro3_391.mp f0
  have f1 : rB3 N K n p 392 [rR x2, rR x1, rI x3, rI x6] σ := by
    obtain ⟨w, e6, e7⟩ := m4 (6276, [2, 1, 3, 6]) (List.mem_of_getElem? (i := 1) rfl)
    obtain rfl : [rR x2, rR x1, rI x3, rI x6] = w := Option.some.inj (show some [rR x2, rR x1, rI x3, rI x6] = some w from e6)
    exact (rF_b (r := 6276) (by decide) rfl).mp e7
  have f1 := ro3_392.mp f1
  have f2 : rB3 N K n p 253 [rR x1, rI x3, rI x7] σ := by
    obtain ⟨w, e6, e7⟩ := m4 (4051, [1, 3, 7]) (List.mem_of_getElem? (i := 2) rfl)
    obtain rfl : [rR x1, rI x3, rI x7] = w := Option.some.inj (show some [rR x1, rI x3, rI x7] = some w from e6)
    exact (rF_b (r := 4051) (by decide) rfl).mp e7
  obtain ⟨C, y, hY, f2⟩ := ro3_253.mp f2
  have f3 : rB3 N K n p 254 [rR x1, rI x3, rI x8] σ := by
    obtain ⟨w, e6, e7⟩ := m4 (4067, [1, 3, 8]) (List.mem_of_getElem? (i := 3) rfl)
    obtain rfl : [rR x1, rI x3, rI x8] = w := Option.some.inj (show some [rR x1, rI x3, rI x8] = some w from e6)
    exact (rF_b (r := 4067) (by decide) rfl).mp e7
  obtain ⟨C9, y9, h9, f3⟩ := ro3_254.mp f3
  obtain ⟨rfl, rfl⟩ := rTY_u hY h9
  clear h9
  have f4 : rB3 N K n p 255 [rR x1, rI x3, rI x9] σ := by
    obtain ⟨w, e6, e7⟩ := m4 (4083, [1, 3, 9]) (List.mem_of_getElem? (i := 4) rfl)
    obtain rfl : [rR x1, rI x3, rI x9] = w := Option.some.inj (show some [rR x1, rI x3, rI x9] = some w from e6)
    exact (rF_b (r := 4083) (by decide) rfl).mp e7
  obtain ⟨C9, y9, h9, f4⟩ := ro3_255.mp f4
  obtain ⟨rfl, rfl⟩ := rTY_u hY h9
  clear h9
  clear m1 m2 m3 m4
  obtain ⟨C9, y9, h9, k1, k2, k3, k4, k5⟩ := f0
  obtain ⟨rfl, rfl⟩ := rTY_u hY h9
  obtain ⟨k0, g5, gm, r5, rm, kk⟩ := f1
  obtain ⟨g5', g6, r5', r6, eq, ez⟩ := hY.1.2.2.2.2
  obtain rfl := rRo_u r5 r5' 
  have q0 : rB3 N K n ((y.2.2.2.2.1, none) : rP) 22 [rR x2] σ := ro3_22.mpr (by
    refine ⟨rfl, ?_, ⟨x7, ⟨b2, d2, _, _, s0, t0⟩, f2.symm⟩, ⟨x8, ⟨b2, d2, _, _, s1, t1⟩, f3.symm⟩, ⟨x9, ⟨b2, d2, _, _, s2, t2⟩, f4.symm⟩⟩
    show rMe K n σ x2 y.2.2.2.2.1.1
    rw [eq]
    refine rZ_e rm (fun j hj => ?_) (fun j j0 j1 => ?_)
    · show (if 0 ≤ j ∧ j ≤ 63 then _ else (0 : Int)) = 0
      rw [if_neg hj]
    · show _ = (if 0 ≤ j ∧ j ≤ 63 then (g5 (64 * x3.toInt + j).toNat).toInt else 0)
      rw [if_pos ⟨j0, j1⟩]
      exact kk j j0 (by omega) j1)
  have q1 : rB3 N K n ((y.2.2.2.2.1, none) : rP) 24 [] σ := ro3_24.mpr (by
    exact hY.2.2.1.2.2.2.2.1)
  have q2 : rB3 N K n ((y.2.2.2.2.1, none) : rP) 465 [rR x0, rR x1, rI x3, rI x4, rI x5] σ := ro3_465.mpr (by
    exact ⟨rfl, C, y, hY, k1, k2, k3, k4, k5, rPo_0.symm⟩)
  exact ⟨((y.2.2.2.2.1, none) : rP), fun h => (by cases h), ⟨(fun q h => by cases h), fun q h => (by cases h), (fun f h => by cases h), (aAllc ⟨_, rfl, (rF_b (r := 353) (by decide) rfl).mpr q0⟩ (aAllc ⟨_, rfl, (rF_b (r := 384) (by decide) rfl).mpr q1⟩ (aAllc ⟨_, rfl, (rF_b (r := 7445) (by decide) rfl).mpr q2⟩ (fun f h => by cases h))))⟩, [], List.mem_cons_self, fun f h => (by cases h)⟩
theorem rw_riS1 {N : Int} {K : Nat → Nat} {n : Nat} {JX : (Nat → jcell) → Prop} : aGho (rH N K n) fa_T K n JX ag_riS1 := by
  refine aGho_of ⟨rfl, rfl⟩ ?_
  intro p σ ρ hH hX hA hM0
  have hG := aAG_of hA.1 (fun i e v he hv => (hA.2 i e v he hv).1)
  clear hA
  obtain ⟨v0, v1, v2, v3, v4, v5, v6, rfl, g0, g1, g2, g3, g4, g5, g6⟩ := rA_7 hG
  clear hG
  obtain ⟨x0, rfl, b0, d0⟩ := rG_ref (by decide) g0
  obtain ⟨x1, rfl, b1, d1⟩ := rG_ref (by decide) g1
  obtain ⟨x2, rfl, b2, d2⟩ := rG_ref (by decide) g2
  obtain ⟨x3, rfl, b3, d3⟩ := aG_int g3
  dsimp only at b3 d3
  obtain ⟨x4, rfl, b4, d4⟩ := aG_int g4
  dsimp only at b4 d4
  obtain ⟨x5, rfl, b5, d5⟩ := aG_int g5
  dsimp only at b5 d5
  obtain ⟨x6, rfl, b6, d6⟩ := aG_int g6
  dsimp only at b6 d6
  obtain ⟨m1, m2, m3, m4⟩ := hM0
  obtain ⟨T, hT⟩ := rTe_ex hH b1 d1
  obtain ⟨M, hM⟩ := rMe_ex hH b2 d2
  have l0 : 0 ≤ (1 * x6.toInt + (-1 * x5.toInt + 0)) + 1 := by
    obtain ⟨z, e6, e7⟩ := m3 ([(6, 1), (5, -1)], 1) (List.mem_of_getElem? (i := 0) rfl)
    obtain rfl : (1 * x6.toInt + (-1 * x5.toInt + 0)) = z := Option.some.inj (show some (1 * x6.toInt + (-1 * x5.toInt + 0)) = some z from e6)
    exact e7
  have l1 : 0 ≤ (-1 * x6.toInt + (1 * x5.toInt + 0)) + -1 := by
    obtain ⟨z, e6, e7⟩ := m3 ([(6, -1), (5, 1)], -1) (List.mem_of_getElem? (i := 1) rfl)
    obtain rfl : (-1 * x6.toInt + (1 * x5.toInt + 0)) = z := Option.some.inj (show some (-1 * x6.toInt + (1 * x5.toInt + 0)) = some z from e6)
    exact e7
  have f0 : rB3 N K n p 22 [rR x2] σ := by
    obtain ⟨w, e6, e7⟩ := m4 (353, [2]) (List.mem_of_getElem? (i := 0) rfl)
    obtain rfl : [rR x2] = w := Option.some.inj (show some [rR x2] = some w from e6)
    exact (rF_b (r := 353) (by decide) rfl).mp e7
  obtain ⟨hp, hR⟩ := ro3_22.mp f0
  obtain rfl := rMg_u hM hR.1
  have f1 : rB3 N K n p 465 [rR x0, rR x1, rI x3, rI x4, rI x5] σ := by
    obtain ⟨w, e6, e7⟩ := m4 (7445, [0, 1, 3, 4, 5]) (List.mem_of_getElem? (i := 1) rfl)
    obtain rfl : [rR x0, rR x1, rI x3, rI x4, rI x5] = w := Option.some.inj (show some [rR x0, rR x1, rI x3, rI x4, rI x5] = some w from e6)
    exact (rF_b (r := 7445) (by decide) rfl).mp e7
  have f1 := ro3_465.mp f1
  clear m1 m2 m3 m4
  have q0 : rB3 N K n p 394 [rR x0, rR x1, rR x2, rI x3, rI x4, rI x5, rI x6] σ := ro3_394.mpr (by
    obtain ⟨-, C, y, hY, k1, k2, k3, k4, k5, k6⟩ := f1
    refine ⟨C, y, hY, k1, k2, k3, k4, k5, by omega, by omega, ?_⟩
    rw [show (x6.toInt + 1).toNat = x5.toInt.toNat by omega, k5, ← k6]
    exact hR)
  exact ⟨p, fun _ => rfl, ⟨(fun q h => by cases h), fun q h => (by cases h), (fun f h => by cases h), (aAllc ⟨_, rfl, (rF_b (r := 6311) (by decide) rfl).mpr q0⟩ (fun f h => by cases h))⟩, [], List.mem_cons_self, fun f h => (by cases h)⟩
theorem rw_riG {N : Int} {K : Nat → Nat} {n : Nat} {JX : (Nat → jcell) → Prop} : aGho (rH N K n) fa_T K n JX ag_riG := by
  refine aGho_of ⟨rfl, rfl⟩ ?_
  intro p σ ρ hH hX hA hM0
  have hG := aAG_of hA.1 (fun i e v he hv => (hA.2 i e v he hv).1)
  clear hA
  obtain ⟨v0, v1, v2, v3, v4, v5, v6, v7, v8, v9, v10, rfl, g0, g1, g2, g3, g4, g5, g6, g7, g8, g9, g10⟩ := rA_11 hG
  clear hG
  obtain ⟨x0, rfl, b0, d0⟩ := rG_ref (by decide) g0
  obtain ⟨x1, rfl, b1, d1⟩ := rG_ref (by decide) g1
  obtain ⟨x2, rfl, b2, d2⟩ := rG_ref (by decide) g2
  obtain ⟨x3, rfl, b3, d3⟩ := aG_int g3
  dsimp only at b3 d3
  obtain ⟨x4, rfl, b4, d4⟩ := aG_int g4
  dsimp only at b4 d4
  obtain ⟨x5, rfl, b5, d5⟩ := aG_int g5
  dsimp only at b5 d5
  obtain ⟨x6, rfl, b6, d6⟩ := aG_int g6
  dsimp only at b6 d6
  obtain ⟨x7, rfl, b7, d7⟩ := aG_int g7
  dsimp only at b7 d7
  obtain ⟨x8, rfl, b8, d8⟩ := aG_int g8
  dsimp only at b8 d8
  obtain ⟨x9, rfl, b9, d9⟩ := rG_ref (by decide) g9
  obtain ⟨x10, rfl, b10, d10⟩ := rG_ref (by decide) g10
  obtain ⟨m1, m2, m3, m4⟩ := hM0
  obtain ⟨T, hT⟩ := rTe_ex hH b1 d1
  obtain ⟨M, hM⟩ := rMe_ex hH b2 d2
  obtain ⟨a0, c0, fs0, w0, e1, s0, t0, e4⟩ := m1 (0, 17, 9) (List.mem_of_getElem? (i := 0) rfl)
  obtain rfl : x0 = a0 := Sum.inl.inj (Option.some.inj (Sum.inr.inj (Sum.inr.inj (Option.some.inj (show some (rR x0) = some _ from e1)))))
  obtain rfl : rR x9 = w0 := Option.some.inj (show some (rR x9) = some w0 from e4)
  clear e1 e4
  obtain ⟨a1, c1, fs1, w1, e1, s1, t1, e4⟩ := m1 (1, 9, 10) (List.mem_of_getElem? (i := 1) rfl)
  obtain rfl : x1 = a1 := Sum.inl.inj (Option.some.inj (Sum.inr.inj (Sum.inr.inj (Option.some.inj (show some (rR x1) = some _ from e1)))))
  obtain rfl : rR x10 = w1 := Option.some.inj (show some (rR x10) = some w1 from e4)
  clear e1 e4
  obtain ⟨a, mc0, ty0, gc0, ic0, e1, sc0, jc0, e4, e5⟩ := m2 (9, ([(6, 1)], 0), 7) (List.mem_of_getElem? (i := 0) rfl)
  obtain rfl : x9 = a := Sum.inl.inj (Option.some.inj (Sum.inr.inj (Sum.inr.inj (Option.some.inj (show some (rR x9) = some _ from e1)))))
  obtain ⟨gc0, rfl⟩ : ∃ g, gc0 = .inl g := by
    rcases gc0 with g | g
    · exact ⟨g, rfl⟩
    · exact absurd (show some (rI x7) = some (.inr (.inl (g ic0))) from e5) (fun h => by cases h)
  have sc0 : σ x9 = .inl (ty0, mc0, .inl gc0) := sc0
  have ec0 : x7 = gc0 ic0 := Sum.inl.inj (Option.some.inj (show some (rI x7) = some _ from e5))
  have kc0 : (ic0 : Int) = (1 * x6.toInt + 0) + 0 := by
    obtain ⟨z, e6, e7⟩ := e4
    obtain rfl : (1 * x6.toInt + 0) = z := Option.some.inj (show some (1 * x6.toInt + 0) = some z from e6)
    exact e7
  clear e1 e4 e5
  obtain ⟨a, mc1, ty1, gc1, ic1, e1, sc1, jc1, e4, e5⟩ := m2 (10, ([(3, 301), (7, 1)], 0), 8) (List.mem_of_getElem? (i := 1) rfl)
  obtain rfl : x10 = a := Sum.inl.inj (Option.some.inj (Sum.inr.inj (Sum.inr.inj (Option.some.inj (show some (rR x10) = some _ from e1)))))
  obtain ⟨gc1, rfl⟩ : ∃ g, gc1 = .inl g := by
    rcases gc1 with g | g
    · exact ⟨g, rfl⟩
    · exact absurd (show some (rI x8) = some (.inr (.inl (g ic1))) from e5) (fun h => by cases h)
  have sc1 : σ x10 = .inl (ty1, mc1, .inl gc1) := sc1
  have ec1 : x8 = gc1 ic1 := Sum.inl.inj (Option.some.inj (show some (rI x8) = some _ from e5))
  have kc1 : (ic1 : Int) = (301 * x3.toInt + (1 * x7.toInt + 0)) + 0 := by
    obtain ⟨z, e6, e7⟩ := e4
    obtain rfl : (301 * x3.toInt + (1 * x7.toInt + 0)) = z := Option.some.inj (show some (301 * x3.toInt + (1 * x7.toInt + 0)) = some z from e6)
    exact e7
  clear e1 e4 e5
  have f0 : rB3 N K n p 394 [rR x0, rR x1, rR x2, rI x3, rI x4, rI x5, rI x6] σ := by
    obtain ⟨w, e6, e7⟩ := m4 (6311, [0, 1, 2, 3, 4, 5, 6]) (List.mem_of_getElem? (i := 0) rfl)
    obtain rfl : [rR x0, rR x1, rR x2, rI x3, rI x4, rI x5, rI x6] = w := Option.some.inj (show some [rR x0, rR x1, rR x2, rI x3, rI x4, rI x5, rI x6] = some w from e6)
    exact (rF_b (r := 6311) (by decide) rfl).mp e7
  have f0 := ro3_394.mp f0
  clear m1 m2 m3 m4
  obtain ⟨C, y, hY, k1, k2, k3, ⟨g, r, k4⟩, k5, k6, k7, k8⟩ := f0
  have e4 := rRo_c (i := ic0) r s0 t0 sc0 ec0
  obtain ⟨k9, k10⟩ := k4 x6.toInt b6 (by omega)
  rw [show x6.toInt.toNat = ic0 by omega, e4] at k9
  rw [show x6.toInt.toNat = ic0 by omega] at k10
  have hub := rUa_b hY.2.2 k1 k2 (j := ic0) (fun i hi => by have := (k4 i (by omega) (by omega)).2; rwa [show ((i : Nat) : Int).toNat = i by omega] at this)
  rw [← k9] at k10 hub
  have y1 : y.2.1 x7.toInt = x8.toInt := rSc_c hY.1.2.1 s1 t1 sc1 ec1 (by omega)
  have hlg := hY.2.2.2.2.1 x7.toInt k10 hub.2
  rw [y1] at hlg
  have hup : y.1 x7.toInt = rUa y.1 (x6.toInt + 1).toNat x4.toInt := by
    rw [show (x6.toInt + 1).toNat = ic0 + 1 by omega, k9]
    rfl
  have hps := rPo_s hY.2.2 k10 hub.2
  rw [y1, hup] at hps
  rw [hup] at hlg
  have hm := hlg.1.1
  have r0 : 0 ≤ (1 * x8.toInt + 0) + 0 := by
    omega
  have r1 : 0 ≤ (1 * x7.toInt + 0) + -1 := by
    omega
  exact ⟨p, fun _ => rfl, ⟨(fun q h => by cases h), fun q h => (by cases h), (aAllc ⟨_, rfl, r0⟩ (aAllc ⟨_, rfl, r1⟩ (fun f h => by cases h))), (fun f h => by cases h)⟩, [], List.mem_cons_self, fun f h => (by cases h)⟩
theorem rw_riT1 {N : Int} {K : Nat → Nat} {n : Nat} {JX : (Nat → jcell) → Prop} : aGho (rH N K n) fa_T K n JX ag_riT1 := by
  refine aGho_of ⟨rfl, rfl⟩ ?_
  intro p σ ρ hH hX hA hM0
  have hG := aAG_of hA.1 (fun i e v he hv => (hA.2 i e v he hv).1)
  clear hA
  obtain ⟨v0, v1, v2, v3, v4, v5, v6, v7, v8, v9, v10, rfl, g0, g1, g2, g3, g4, g5, g6, g7, g8, g9, g10⟩ := rA_11 hG
  clear hG
  obtain ⟨x0, rfl, b0, d0⟩ := rG_ref (by decide) g0
  obtain ⟨x1, rfl, b1, d1⟩ := rG_ref (by decide) g1
  obtain ⟨x2, rfl, b2, d2⟩ := rG_ref (by decide) g2
  obtain ⟨x3, rfl, b3, d3⟩ := aG_int g3
  dsimp only at b3 d3
  obtain ⟨x4, rfl, b4, d4⟩ := aG_int g4
  dsimp only at b4 d4
  obtain ⟨x5, rfl, b5, d5⟩ := aG_int g5
  dsimp only at b5 d5
  obtain ⟨x6, rfl, b6, d6⟩ := aG_int g6
  dsimp only at b6 d6
  obtain ⟨x7, rfl, b7, d7⟩ := aG_int g7
  dsimp only at b7 d7
  obtain ⟨x8, rfl, b8, d8⟩ := aG_int g8
  dsimp only at b8 d8
  obtain ⟨x9, rfl, b9, d9⟩ := rG_ref (by decide) g9
  obtain ⟨x10, rfl, b10, d10⟩ := rG_ref (by decide) g10
  obtain ⟨m1, m2, m3, m4⟩ := hM0
  obtain ⟨T, hT⟩ := rTe_ex hH b1 d1
  obtain ⟨M, hM⟩ := rMe_ex hH b2 d2
  obtain ⟨a0, c0, fs0, w0, e1, s0, t0, e4⟩ := m1 (0, 17, 9) (List.mem_of_getElem? (i := 0) rfl)
  obtain rfl : x0 = a0 := Sum.inl.inj (Option.some.inj (Sum.inr.inj (Sum.inr.inj (Option.some.inj (show some (rR x0) = some _ from e1)))))
  obtain rfl : rR x9 = w0 := Option.some.inj (show some (rR x9) = some w0 from e4)
  clear e1 e4
  obtain ⟨a1, c1, fs1, w1, e1, s1, t1, e4⟩ := m1 (1, 9, 10) (List.mem_of_getElem? (i := 1) rfl)
  obtain rfl : x1 = a1 := Sum.inl.inj (Option.some.inj (Sum.inr.inj (Sum.inr.inj (Option.some.inj (show some (rR x1) = some _ from e1)))))
  obtain rfl : rR x10 = w1 := Option.some.inj (show some (rR x10) = some w1 from e4)
  clear e1 e4
  obtain ⟨a, mc0, ty0, gc0, ic0, e1, sc0, jc0, e4, e5⟩ := m2 (9, ([(6, 1)], 0), 7) (List.mem_of_getElem? (i := 0) rfl)
  obtain rfl : x9 = a := Sum.inl.inj (Option.some.inj (Sum.inr.inj (Sum.inr.inj (Option.some.inj (show some (rR x9) = some _ from e1)))))
  obtain ⟨gc0, rfl⟩ : ∃ g, gc0 = .inl g := by
    rcases gc0 with g | g
    · exact ⟨g, rfl⟩
    · exact absurd (show some (rI x7) = some (.inr (.inl (g ic0))) from e5) (fun h => by cases h)
  have sc0 : σ x9 = .inl (ty0, mc0, .inl gc0) := sc0
  have ec0 : x7 = gc0 ic0 := Sum.inl.inj (Option.some.inj (show some (rI x7) = some _ from e5))
  have kc0 : (ic0 : Int) = (1 * x6.toInt + 0) + 0 := by
    obtain ⟨z, e6, e7⟩ := e4
    obtain rfl : (1 * x6.toInt + 0) = z := Option.some.inj (show some (1 * x6.toInt + 0) = some z from e6)
    exact e7
  clear e1 e4 e5
  obtain ⟨a, mc1, ty1, gc1, ic1, e1, sc1, jc1, e4, e5⟩ := m2 (10, ([(3, 301), (7, 1)], 0), 8) (List.mem_of_getElem? (i := 1) rfl)
  obtain rfl : x10 = a := Sum.inl.inj (Option.some.inj (Sum.inr.inj (Sum.inr.inj (Option.some.inj (show some (rR x10) = some _ from e1)))))
  obtain ⟨gc1, rfl⟩ : ∃ g, gc1 = .inl g := by
    rcases gc1 with g | g
    · exact ⟨g, rfl⟩
    · exact absurd (show some (rI x8) = some (.inr (.inl (g ic1))) from e5) (fun h => by cases h)
  have sc1 : σ x10 = .inl (ty1, mc1, .inl gc1) := sc1
  have ec1 : x8 = gc1 ic1 := Sum.inl.inj (Option.some.inj (show some (rI x8) = some _ from e5))
  have kc1 : (ic1 : Int) = (301 * x3.toInt + (1 * x7.toInt + 0)) + 0 := by
    obtain ⟨z, e6, e7⟩ := e4
    obtain rfl : (301 * x3.toInt + (1 * x7.toInt + 0)) = z := Option.some.inj (show some (301 * x3.toInt + (1 * x7.toInt + 0)) = some z from e6)
    exact e7
  clear e1 e4 e5
  have f0 : rB3 N K n p 394 [rR x0, rR x1, rR x2, rI x3, rI x4, rI x5, rI x6] σ := by
    obtain ⟨w, e6, e7⟩ := m4 (6311, [0, 1, 2, 3, 4, 5, 6]) (List.mem_of_getElem? (i := 0) rfl)
    obtain rfl : [rR x0, rR x1, rR x2, rI x3, rI x4, rI x5, rI x6] = w := Option.some.inj (show some [rR x0, rR x1, rR x2, rI x3, rI x4, rI x5, rI x6] = some w from e6)
    exact (rF_b (r := 6311) (by decide) rfl).mp e7
  have f0 := ro3_394.mp f0
  clear m1 m2 m3 m4
  obtain ⟨C, y, hY, k1, k2, k3, ⟨g, r, k4⟩, k5, k6, k7, k8⟩ := f0
  have e4 := rRo_c (i := ic0) r s0 t0 sc0 ec0
  obtain ⟨k9, k10⟩ := k4 x6.toInt b6 (by omega)
  rw [show x6.toInt.toNat = ic0 by omega, e4] at k9
  rw [show x6.toInt.toNat = ic0 by omega] at k10
  have hub := rUa_b hY.2.2 k1 k2 (j := ic0) (fun i hi => by have := (k4 i (by omega) (by omega)).2; rwa [show ((i : Nat) : Int).toNat = i by omega] at this)
  rw [← k9] at k10 hub
  have y1 : y.2.1 x7.toInt = x8.toInt := rSc_c hY.1.2.1 s1 t1 sc1 ec1 (by omega)
  have hlg := hY.2.2.2.2.1 x7.toInt k10 hub.2
  rw [y1] at hlg
  have hup : y.1 x7.toInt = rUa y.1 (x6.toInt + 1).toNat x4.toInt := by
    rw [show (x6.toInt + 1).toNat = ic0 + 1 by omega, k9]
    rfl
  have hps := rPo_s hY.2.2 k10 hub.2
  rw [y1, hup] at hps
  rw [hup] at hlg
  have q0 : rB3 N K n ((rPo y (rUa y.1 (x6.toInt + 1).toNat x4.toInt), none) : rP) 22 [rR x2] σ := ro3_22.mpr (by
    exact ⟨rfl, k8⟩)
  have q1 : rB3 N K n ((rPo y (rUa y.1 (x6.toInt + 1).toNat x4.toInt), none) : rP) 24 [] σ := ro3_24.mpr (by
    exact rPo_g hY.2.2 (by rw [← hup]; exact (hY.2.2.2.1 _ k10 hub.2).1) (by have := hY.2.2.2.1 _ k10 hub.2; rw [← hup]; omega))
  have q2 : rB3 N K n ((rPo y (rUa y.1 (x6.toInt + 1).toNat x4.toInt), none) : rP) 25 [rI x8] σ := ro3_25.mpr (by
    exact hlg.1)
  have q3 : rB3 N K n (rSh rS1 ((rPo y (rUa y.1 (x6.toInt + 1).toNat x4.toInt), none) : rP) [rR x2, rI x8]) 24 [] σ := ro3_24.mpr (by
    rw [rSh_mk rfl]
    show rGd (rMk (rPo y (rUa y.1 (x6.toInt + 1).toNat x4.toInt)) x8.toInt)
    rw [← hps]
    exact hlg.2)
  have q4 : rB3 N K n ((rPo y (rUa y.1 (x6.toInt + 1).toNat x4.toInt), none) : rP) 464 [rR x0, rR x1, rI x3, rI x4, rI x5, rI x6] σ := ro3_464.mpr (by
    exact ⟨rfl, C, y, hY, k1, k2, k3, ⟨g, r, k4⟩, k5, b6, k7, rfl⟩)
  exact ⟨((rPo y (rUa y.1 (x6.toInt + 1).toNat x4.toInt), none) : rP), fun h => (by cases h), ⟨(fun q h => by cases h), fun q h => (by cases h), (fun f h => by cases h), (aAllc ⟨_, rfl, (rF_b (r := 353) (by decide) rfl).mpr q0⟩ (aAllc ⟨_, rfl, (rF_b (r := 384) (by decide) rfl).mpr q1⟩ (aAllc ⟨_, rfl, (rF_b (r := 401) (by decide) rfl).mpr q2⟩ (aAllc ⟨_, rfl, (rF_g (r := 384) (by decide)).mpr q3⟩ (aAllc ⟨_, rfl, (rF_b (r := 7430) (by decide) rfl).mpr q4⟩ (fun f h => by cases h))))))⟩, [], List.mem_cons_self, fun f h => (by cases h)⟩
theorem rw_riT2 {N : Int} {K : Nat → Nat} {n : Nat} {JX : (Nat → jcell) → Prop} : aGho (rH N K n) fa_T K n JX ag_riT2 := by
  refine aGho_of ⟨rfl, rfl⟩ ?_
  intro p σ ρ hH hX hA hM0
  have hG := aAG_of hA.1 (fun i e v he hv => (hA.2 i e v he hv).1)
  clear hA
  obtain ⟨v0, v1, v2, v3, v4, v5, v6, v7, v8, v9, v10, rfl, g0, g1, g2, g3, g4, g5, g6, g7, g8, g9, g10⟩ := rA_11 hG
  clear hG
  obtain ⟨x0, rfl, b0, d0⟩ := rG_ref (by decide) g0
  obtain ⟨x1, rfl, b1, d1⟩ := rG_ref (by decide) g1
  obtain ⟨x2, rfl, b2, d2⟩ := rG_ref (by decide) g2
  obtain ⟨x3, rfl, b3, d3⟩ := aG_int g3
  dsimp only at b3 d3
  obtain ⟨x4, rfl, b4, d4⟩ := aG_int g4
  dsimp only at b4 d4
  obtain ⟨x5, rfl, b5, d5⟩ := aG_int g5
  dsimp only at b5 d5
  obtain ⟨x6, rfl, b6, d6⟩ := aG_int g6
  dsimp only at b6 d6
  obtain ⟨x7, rfl, b7, d7⟩ := aG_int g7
  dsimp only at b7 d7
  obtain ⟨x8, rfl, b8, d8⟩ := aG_int g8
  dsimp only at b8 d8
  obtain ⟨x9, rfl, b9, d9⟩ := rG_ref (by decide) g9
  obtain ⟨x10, rfl, b10, d10⟩ := rG_ref (by decide) g10
  obtain ⟨m1, m2, m3, m4⟩ := hM0
  obtain ⟨T, hT⟩ := rTe_ex hH b1 d1
  obtain ⟨M, hM⟩ := rMe_ex hH b2 d2
  obtain ⟨a0, c0, fs0, w0, e1, s0, t0, e4⟩ := m1 (0, 17, 9) (List.mem_of_getElem? (i := 0) rfl)
  obtain rfl : x0 = a0 := Sum.inl.inj (Option.some.inj (Sum.inr.inj (Sum.inr.inj (Option.some.inj (show some (rR x0) = some _ from e1)))))
  obtain rfl : rR x9 = w0 := Option.some.inj (show some (rR x9) = some w0 from e4)
  clear e1 e4
  obtain ⟨a1, c1, fs1, w1, e1, s1, t1, e4⟩ := m1 (1, 9, 10) (List.mem_of_getElem? (i := 1) rfl)
  obtain rfl : x1 = a1 := Sum.inl.inj (Option.some.inj (Sum.inr.inj (Sum.inr.inj (Option.some.inj (show some (rR x1) = some _ from e1)))))
  obtain rfl : rR x10 = w1 := Option.some.inj (show some (rR x10) = some w1 from e4)
  clear e1 e4
  obtain ⟨a, mc0, ty0, gc0, ic0, e1, sc0, jc0, e4, e5⟩ := m2 (9, ([(6, 1)], 0), 7) (List.mem_of_getElem? (i := 0) rfl)
  obtain rfl : x9 = a := Sum.inl.inj (Option.some.inj (Sum.inr.inj (Sum.inr.inj (Option.some.inj (show some (rR x9) = some _ from e1)))))
  obtain ⟨gc0, rfl⟩ : ∃ g, gc0 = .inl g := by
    rcases gc0 with g | g
    · exact ⟨g, rfl⟩
    · exact absurd (show some (rI x7) = some (.inr (.inl (g ic0))) from e5) (fun h => by cases h)
  have sc0 : σ x9 = .inl (ty0, mc0, .inl gc0) := sc0
  have ec0 : x7 = gc0 ic0 := Sum.inl.inj (Option.some.inj (show some (rI x7) = some _ from e5))
  have kc0 : (ic0 : Int) = (1 * x6.toInt + 0) + 0 := by
    obtain ⟨z, e6, e7⟩ := e4
    obtain rfl : (1 * x6.toInt + 0) = z := Option.some.inj (show some (1 * x6.toInt + 0) = some z from e6)
    exact e7
  clear e1 e4 e5
  obtain ⟨a, mc1, ty1, gc1, ic1, e1, sc1, jc1, e4, e5⟩ := m2 (10, ([(3, 301), (7, 1)], 0), 8) (List.mem_of_getElem? (i := 1) rfl)
  obtain rfl : x10 = a := Sum.inl.inj (Option.some.inj (Sum.inr.inj (Sum.inr.inj (Option.some.inj (show some (rR x10) = some _ from e1)))))
  obtain ⟨gc1, rfl⟩ : ∃ g, gc1 = .inl g := by
    rcases gc1 with g | g
    · exact ⟨g, rfl⟩
    · exact absurd (show some (rI x8) = some (.inr (.inl (g ic1))) from e5) (fun h => by cases h)
  have sc1 : σ x10 = .inl (ty1, mc1, .inl gc1) := sc1
  have ec1 : x8 = gc1 ic1 := Sum.inl.inj (Option.some.inj (show some (rI x8) = some _ from e5))
  have kc1 : (ic1 : Int) = (301 * x3.toInt + (1 * x7.toInt + 0)) + 0 := by
    obtain ⟨z, e6, e7⟩ := e4
    obtain rfl : (301 * x3.toInt + (1 * x7.toInt + 0)) = z := Option.some.inj (show some (301 * x3.toInt + (1 * x7.toInt + 0)) = some z from e6)
    exact e7
  clear e1 e4 e5
  have f0 : rB3 N K n (rSh rS1 p [rR x2, rI x8]) 22 [rR x2] σ := by
    obtain ⟨w, e6, e7⟩ := m4 (353, [2, 2, 8]) (List.mem_of_getElem? (i := 0) rfl)
    obtain rfl : [rR x2, rR x2, rI x8] = w := Option.some.inj (show some [rR x2, rR x2, rI x8] = some w from e6)
    exact (rF_g (r := 353) (by decide)).mp e7
  obtain ⟨hq9, hR⟩ := ro3_22.mp f0
  have hp : p.2 = none := rSh_n1 hq9
  clear hq9
  rw [rSh_mk hp] at hR
  obtain rfl : M = rM4 p.1 x8.toInt := rMg_u hM hR.1
  have f1 : rB3 N K n p 464 [rR x0, rR x1, rI x3, rI x4, rI x5, rI x6] σ := by
    obtain ⟨w, e6, e7⟩ := m4 (7430, [0, 1, 3, 4, 5, 6]) (List.mem_of_getElem? (i := 1) rfl)
    obtain rfl : [rR x0, rR x1, rI x3, rI x4, rI x5, rI x6] = w := Option.some.inj (show some [rR x0, rR x1, rI x3, rI x4, rI x5, rI x6] = some w from e6)
    exact (rF_b (r := 7430) (by decide) rfl).mp e7
  have f1 := ro3_464.mp f1
  have f2 : rB3 N K n p 24 [] σ := by
    obtain ⟨w, e6, e7⟩ := m4 (384, []) (List.mem_of_getElem? (i := 2) rfl)
    obtain rfl : [] = w := Option.some.inj (show some [] = some w from e6)
    exact (rF_b (r := 384) (by decide) rfl).mp e7
  have f2 := ro3_24.mp f2
  have f3 : rB3 N K n p 25 [rI x8] σ := by
    obtain ⟨w, e6, e7⟩ := m4 (401, [8]) (List.mem_of_getElem? (i := 3) rfl)
    obtain rfl : [rI x8] = w := Option.some.inj (show some [rI x8] = some w from e6)
    exact (rF_b (r := 401) (by decide) rfl).mp e7
  have f3 := ro3_25.mp f3
  clear m1 m2 m3 m4
  obtain ⟨-, C, y, hY, k1, k2, k3, ⟨g, r, k4⟩, k5, k6, k7, k8⟩ := f1
  have e4 := rRo_c (i := ic0) r s0 t0 sc0 ec0
  obtain ⟨k9, k10⟩ := k4 x6.toInt b6 (by omega)
  rw [show x6.toInt.toNat = ic0 by omega, e4] at k9
  rw [show x6.toInt.toNat = ic0 by omega] at k10
  have hub := rUa_b hY.2.2 k1 k2 (j := ic0) (fun i hi => by have := (k4 i (by omega) (by omega)).2; rwa [show ((i : Nat) : Int).toNat = i by omega] at this)
  rw [← k9] at k10 hub
  have y1 : y.2.1 x7.toInt = x8.toInt := rSc_c hY.1.2.1 s1 t1 sc1 ec1 (by omega)
  have hlg := hY.2.2.2.2.1 x7.toInt k10 hub.2
  rw [y1] at hlg
  have hup : y.1 x7.toInt = rUa y.1 (x6.toInt + 1).toNat x4.toInt := by
    rw [show (x6.toInt + 1).toNat = ic0 + 1 by omega, k9]
    rfl
  have hps := rPo_s hY.2.2 k10 hub.2
  rw [y1, hup] at hps
  rw [hup] at hlg
  have q0 : rB3 N K n p 395 [rR x0, rR x1, rR x2, rI x3, rI x4, rI x5, rI x6] σ := ro3_395.mpr (by
    refine ⟨C, y, hY, k1, k2, k3, ⟨g, r, k4⟩, k5, k6, k7, ?_⟩
    have e9 : rMk p.1 x8.toInt = rPo y (rUa y.1 x6.toInt.toNat x4.toInt) := by
      rw [k8, ← hps, show x6.toInt.toNat = ic0 by omega, ← k9]
    rw [← e9]
    exact hR)
  exact ⟨p, fun _ => rfl, ⟨(fun q h => by cases h), fun q h => (by cases h), (fun f h => by cases h), (aAllc ⟨_, rfl, (rF_b (r := 6327) (by decide) rfl).mpr q0⟩ (fun f h => by cases h))⟩, [], List.mem_cons_self, fun f h => (by cases h)⟩
theorem rw_riT3 {N : Int} {K : Nat → Nat} {n : Nat} {JX : (Nat → jcell) → Prop} : aGho (rH N K n) fa_T K n JX ag_riT3 := by
  refine aGho_of ⟨rfl, rfl⟩ ?_
  intro p σ ρ hH hX hA hM0
  have hG := aAG_of hA.1 (fun i e v he hv => (hA.2 i e v he hv).1)
  clear hA
  obtain ⟨v0, v1, v2, v3, v4, v5, v6, rfl, g0, g1, g2, g3, g4, g5, g6⟩ := rA_7 hG
  clear hG
  obtain ⟨x0, rfl, b0, d0⟩ := rG_ref (by decide) g0
  obtain ⟨x1, rfl, b1, d1⟩ := rG_ref (by decide) g1
  obtain ⟨x2, rfl, b2, d2⟩ := rG_ref (by decide) g2
  obtain ⟨x3, rfl, b3, d3⟩ := aG_int g3
  dsimp only at b3 d3
  obtain ⟨x4, rfl, b4, d4⟩ := aG_int g4
  dsimp only at b4 d4
  obtain ⟨x5, rfl, b5, d5⟩ := aG_int g5
  dsimp only at b5 d5
  obtain ⟨x6, rfl, b6, d6⟩ := aG_int g6
  dsimp only at b6 d6
  obtain ⟨m1, m2, m3, m4⟩ := hM0
  obtain ⟨T, hT⟩ := rTe_ex hH b1 d1
  obtain ⟨M, hM⟩ := rMe_ex hH b2 d2
  have f0 : rB3 N K n p 395 [rR x0, rR x1, rR x2, rI x3, rI x4, rI x5, rI x6] σ := by
    obtain ⟨w, e6, e7⟩ := m4 (6327, [0, 1, 2, 3, 4, 5, 6]) (List.mem_of_getElem? (i := 0) rfl)
    obtain rfl : [rR x0, rR x1, rR x2, rI x3, rI x4, rI x5, rI x6] = w := Option.some.inj (show some [rR x0, rR x1, rR x2, rI x3, rI x4, rI x5, rI x6] = some w from e6)
    exact (rF_b (r := 6327) (by decide) rfl).mp e7
  have f0 := ro3_395.mp f0
  clear m1 m2 m3 m4
  obtain ⟨C, y, hY, k1, k2, k3, ⟨g, r, k4⟩, k5, k6, k7, k8⟩ := f0
  have hub := rUa_b hY.2.2 k1 k2 (j := x6.toInt.toNat) (fun i hi => by have := (k4 i (by omega) (by omega)).2; rwa [show ((i : Nat) : Int).toNat = i by omega] at this)
  have q0 : rB3 N K n ((rPo y (rUa y.1 x6.toInt.toNat x4.toInt), none) : rP) 22 [rR x2] σ := ro3_22.mpr (by
    exact ⟨rfl, k8⟩)
  have q1 : rB3 N K n ((rPo y (rUa y.1 x6.toInt.toNat x4.toInt), none) : rP) 24 [] σ := ro3_24.mpr (by
    exact rPo_g hY.2.2 hub.1 hub.2)
  have q2 : rB3 N K n ((rPo y (rUa y.1 x6.toInt.toNat x4.toInt), none) : rP) 466 [rR x0, rR x1, rI x3, rI x4, rI x5, rI x6] σ := ro3_466.mpr (by
    exact ⟨rfl, C, y, hY, k1, k2, k3, ⟨g, r, k4⟩, k5, k6, k7, rfl⟩)
  exact ⟨((rPo y (rUa y.1 x6.toInt.toNat x4.toInt), none) : rP), fun h => (by cases h), ⟨(fun q h => by cases h), fun q h => (by cases h), (fun f h => by cases h), (aAllc ⟨_, rfl, (rF_b (r := 353) (by decide) rfl).mpr q0⟩ (aAllc ⟨_, rfl, (rF_b (r := 384) (by decide) rfl).mpr q1⟩ (aAllc ⟨_, rfl, (rF_b (r := 7462) (by decide) rfl).mpr q2⟩ (fun f h => by cases h))))⟩, [], List.mem_cons_self, fun f h => (by cases h)⟩
theorem rw_riT4 {N : Int} {K : Nat → Nat} {n : Nat} {JX : (Nat → jcell) → Prop} : aGho (rH N K n) fa_T K n JX ag_riT4 := by
  refine aGho_of ⟨rfl, rfl⟩ ?_
  intro p σ ρ hH hX hA hM0
  have hG := aAG_of hA.1 (fun i e v he hv => (hA.2 i e v he hv).1)
  clear hA
  obtain ⟨v0, v1, v2, v3, v4, v5, v6, v7, rfl, g0, g1, g2, g3, g4, g5, g6, g7⟩ := rA_8 hG
  clear hG
  obtain ⟨x0, rfl, b0, d0⟩ := rG_ref (by decide) g0
  obtain ⟨x1, rfl, b1, d1⟩ := rG_ref (by decide) g1
  obtain ⟨x2, rfl, b2, d2⟩ := rG_ref (by decide) g2
  obtain ⟨x3, rfl, b3, d3⟩ := aG_int g3
  dsimp only at b3 d3
  obtain ⟨x4, rfl, b4, d4⟩ := aG_int g4
  dsimp only at b4 d4
  obtain ⟨x5, rfl, b5, d5⟩ := aG_int g5
  dsimp only at b5 d5
  obtain ⟨x6, rfl, b6, d6⟩ := aG_int g6
  dsimp only at b6 d6
  obtain ⟨x7, rfl, b7, d7⟩ := aG_int g7
  dsimp only at b7 d7
  obtain ⟨m1, m2, m3, m4⟩ := hM0
  obtain ⟨T, hT⟩ := rTe_ex hH b1 d1
  obtain ⟨M, hM⟩ := rMe_ex hH b2 d2
  have l0 : 0 ≤ (1 * x7.toInt + (-1 * x6.toInt + 0)) + 1 := by
    obtain ⟨z, e6, e7⟩ := m3 ([(7, 1), (6, -1)], 1) (List.mem_of_getElem? (i := 0) rfl)
    obtain rfl : (1 * x7.toInt + (-1 * x6.toInt + 0)) = z := Option.some.inj (show some (1 * x7.toInt + (-1 * x6.toInt + 0)) = some z from e6)
    exact e7
  have l1 : 0 ≤ (-1 * x7.toInt + (1 * x6.toInt + 0)) + -1 := by
    obtain ⟨z, e6, e7⟩ := m3 ([(7, -1), (6, 1)], -1) (List.mem_of_getElem? (i := 1) rfl)
    obtain rfl : (-1 * x7.toInt + (1 * x6.toInt + 0)) = z := Option.some.inj (show some (-1 * x7.toInt + (1 * x6.toInt + 0)) = some z from e6)
    exact e7
  have f0 : rB3 N K n p 22 [rR x2] σ := by
    obtain ⟨w, e6, e7⟩ := m4 (353, [2]) (List.mem_of_getElem? (i := 0) rfl)
    obtain rfl : [rR x2] = w := Option.some.inj (show some [rR x2] = some w from e6)
    exact (rF_b (r := 353) (by decide) rfl).mp e7
  obtain ⟨hp, hR⟩ := ro3_22.mp f0
  obtain rfl := rMg_u hM hR.1
  have f1 : rB3 N K n p 466 [rR x0, rR x1, rI x3, rI x4, rI x5, rI x6] σ := by
    obtain ⟨w, e6, e7⟩ := m4 (7462, [0, 1, 3, 4, 5, 6]) (List.mem_of_getElem? (i := 1) rfl)
    obtain rfl : [rR x0, rR x1, rI x3, rI x4, rI x5, rI x6] = w := Option.some.inj (show some [rR x0, rR x1, rI x3, rI x4, rI x5, rI x6] = some w from e6)
    exact (rF_b (r := 7462) (by decide) rfl).mp e7
  have f1 := ro3_466.mp f1
  clear m1 m2 m3 m4
  have q0 : rB3 N K n p 394 [rR x0, rR x1, rR x2, rI x3, rI x4, rI x5, rI x7] σ := ro3_394.mpr (by
    obtain ⟨-, C, y, hY, k1, k2, k3, k4, k5, k6, k7, k8⟩ := f1
    refine ⟨C, y, hY, k1, k2, k3, k4, k5, by omega, by omega, ?_⟩
    rw [show (x7.toInt + 1).toNat = x6.toInt.toNat by omega, ← k8]
    exact hR)
  exact ⟨p, fun _ => rfl, ⟨(fun q h => by cases h), fun q h => (by cases h), (fun f h => by cases h), (aAllc ⟨_, rfl, (rF_b (r := 6311) (by decide) rfl).mpr q0⟩ (fun f h => by cases h))⟩, [], List.mem_cons_self, fun f h => (by cases h)⟩
theorem rw_riE {N : Int} {K : Nat → Nat} {n : Nat} {JX : (Nat → jcell) → Prop} : aGho (rH N K n) fa_T K n JX ag_riE := by
  refine aGho_of ⟨rfl, rfl⟩ ?_
  intro p σ ρ hH hX hA hM0
  have hG := aAG_of hA.1 (fun i e v he hv => (hA.2 i e v he hv).1)
  clear hA
  obtain ⟨v0, v1, v2, v3, v4, v5, v6, rfl, g0, g1, g2, g3, g4, g5, g6⟩ := rA_7 hG
  clear hG
  obtain ⟨x0, rfl, b0, d0⟩ := rG_ref (by decide) g0
  obtain ⟨x1, rfl, b1, d1⟩ := rG_ref (by decide) g1
  obtain ⟨x2, rfl, b2, d2⟩ := rG_ref (by decide) g2
  obtain ⟨x3, rfl, b3, d3⟩ := aG_int g3
  dsimp only at b3 d3
  obtain ⟨x4, rfl, b4, d4⟩ := aG_int g4
  dsimp only at b4 d4
  obtain ⟨x5, rfl, b5, d5⟩ := aG_int g5
  dsimp only at b5 d5
  obtain ⟨x6, rfl, b6, d6⟩ := aG_int g6
  dsimp only at b6 d6
  obtain ⟨m1, m2, m3, m4⟩ := hM0
  obtain ⟨T, hT⟩ := rTe_ex hH b1 d1
  obtain ⟨M, hM⟩ := rMe_ex hH b2 d2
  have f0 : rB3 N K n p 394 [rR x0, rR x1, rR x2, rI x3, rI x4, rI x5, rI x6] σ := by
    obtain ⟨w, e6, e7⟩ := m4 (6311, [0, 1, 2, 3, 4, 5, 6]) (List.mem_of_getElem? (i := 0) rfl)
    obtain rfl : [rR x0, rR x1, rR x2, rI x3, rI x4, rI x5, rI x6] = w := Option.some.inj (show some [rR x0, rR x1, rR x2, rI x3, rI x4, rI x5, rI x6] = some w from e6)
    exact (rF_b (r := 6311) (by decide) rfl).mp e7
  have f0 := ro3_394.mp f0
  clear m1 m2 m3 m4
  have q0 : rB3 N K n p 396 [rR x2, rR x1, rI x3, rI x4] σ := ro3_396.mpr (by
    obtain ⟨C, y, hY, k1, k2, k3, k4, k5, k6, k7, k8⟩ := f0
    rw [show (x6.toInt + 1).toNat = 0 by omega] at k8
    exact ⟨y.1, y.2.1, y.2.2.2.2.1, rSt3_y hY.1, k8⟩)
  exact ⟨p, fun _ => rfl, ⟨(fun q h => by cases h), fun q h => (by cases h), (fun f h => by cases h), (aAllc ⟨_, rfl, (rF_b (r := 6340) (by decide) rfl).mpr q0⟩ (fun f h => by cases h))⟩, [], List.mem_cons_self, fun f h => (by cases h)⟩
theorem rw_riN {N : Int} {K : Nat → Nat} {n : Nat} {JX : (Nat → jcell) → Prop} : aGho (rH N K n) fa_T K n JX ag_riN := by
  refine aGho_of ⟨rfl, rfl⟩ ?_
  intro p σ ρ hH hX hA hM0
  have hG := aAG_of hA.1 (fun i e v he hv => (hA.2 i e v he hv).1)
  clear hA
  obtain ⟨v0, v1, rfl, g0, g1⟩ := rA_2 hG
  clear hG
  obtain ⟨x0, rfl, b0, d0⟩ := rG_ref (by decide) g0
  obtain ⟨x1, rfl, b1, d1⟩ := aG_int g1
  dsimp only at b1 d1
  obtain ⟨m1, m2, m3, m4⟩ := hM0
  obtain ⟨M, hM⟩ := rMe_ex hH b0 d0
  obtain ⟨a0, c0, fs0, w0, e1, s0, t0, e4⟩ := m1 (0, 7, 1) (List.mem_of_getElem? (i := 0) rfl)
  obtain rfl : x0 = a0 := Sum.inl.inj (Option.some.inj (Sum.inr.inj (Sum.inr.inj (Option.some.inj (show some (rR x0) = some _ from e1)))))
  obtain rfl : rI x1 = w0 := Option.some.inj (show some (rI x1) = some w0 from e4)
  clear e1 e4
  have l0 : 0 ≤ (-2 * x1.toInt + 0) + 2597 := by
    obtain ⟨z, e6, e7⟩ := m3 ([(1, -2)], 2597) (List.mem_of_getElem? (i := 0) rfl)
    obtain rfl : (-2 * x1.toInt + 0) = z := Option.some.inj (show some (-2 * x1.toInt + 0) = some z from e6)
    exact e7
  have l1 : 0 ≤ (1 * x1.toInt + 0) + 0 := by
    obtain ⟨z, e6, e7⟩ := m3 ([(1, 1)], 0) (List.mem_of_getElem? (i := 1) rfl)
    obtain rfl : (1 * x1.toInt + 0) = z := Option.some.inj (show some (1 * x1.toInt + 0) = some z from e6)
    exact e7
  clear m1 m2 m3 m4
  have r0 : 0 ≤ (-1 * x1.toInt + 0) + 1298 := by
    omega
  exact ⟨p, fun _ => rfl, ⟨(fun q h => by cases h), fun q h => (by cases h), (aAllc ⟨_, rfl, r0⟩ (fun f h => by cases h)), (fun f h => by cases h)⟩, [], List.mem_cons_self, fun f h => (by cases h)⟩
theorem rw_riG0 {N : Int} {K : Nat → Nat} {n : Nat} {JX : (Nat → jcell) → Prop} : aGho (rH N K n) fa_T K n JX ag_riG0 := by
  refine aGho_of ⟨rfl, rfl⟩ ?_
  intro p σ ρ hH hX hA hM0
  have hG := aAG_of hA.1 (fun i e v he hv => (hA.2 i e v he hv).1)
  clear hA
  obtain ⟨v0, v1, rfl, g0, g1⟩ := rA_2 hG
  clear hG
  obtain ⟨x0, rfl, b0, d0⟩ := rG_ref (by decide) g0
  obtain ⟨x1, rfl, b1, d1⟩ := aG_int g1
  dsimp only at b1 d1
  obtain ⟨m1, m2, m3, m4⟩ := hM0
  obtain ⟨M, hM⟩ := rMe_ex hH b0 d0
  clear m1 m2 m3 m4
  have q0 : rB3 N K n p 170 [rR x0, rI x1] σ := ro3_170.mpr (by
    rw [show x1.toInt = 0 by omega]
    exact rPG_z hH b0 d0)
  exact ⟨p, fun _ => rfl, ⟨(fun q h => by cases h), fun q h => (by cases h), (fun f h => by cases h), (aAllc ⟨_, rfl, (rF_b (r := 2722) (by decide) rfl).mpr q0⟩ (fun f h => by cases h))⟩, [], List.mem_cons_self, fun f h => (by cases h)⟩
theorem rw_riG2 {N : Int} {K : Nat → Nat} {n : Nat} {JX : (Nat → jcell) → Prop} : aGho (rH N K n) fa_T K n JX ag_riG2 := by
  refine aGho_of ⟨rfl, rfl⟩ ?_
  intro p σ ρ hH hX hA hM0
  have hG := aAG_of hA.1 (fun i e v he hv => (hA.2 i e v he hv).1)
  clear hA
  obtain ⟨v0, v1, v2, v3, rfl, g0, g1, g2, g3⟩ := rA_4 hG
  clear hG
  obtain ⟨x0, rfl, b0, d0⟩ := rG_ref (by decide) g0
  obtain ⟨x1, rfl, b1, d1⟩ := aG_int g1
  dsimp only at b1 d1
  obtain ⟨x2, rfl, b2, d2⟩ := aG_int g2
  dsimp only at b2 d2
  obtain ⟨x3, rfl, b3, d3⟩ := aG_int g3
  dsimp only at b3 d3
  obtain ⟨m1, m2, m3, m4⟩ := hM0
  obtain ⟨M, hM⟩ := rMe_ex hH b0 d0
  have l0 : 0 ≤ (1 * x1.toInt + (-1 * x2.toInt + 0)) + -1 := by
    obtain ⟨z, e6, e7⟩ := m3 ([(1, 1), (2, -1)], -1) (List.mem_of_getElem? (i := 0) rfl)
    obtain rfl : (1 * x1.toInt + (-1 * x2.toInt + 0)) = z := Option.some.inj (show some (1 * x1.toInt + (-1 * x2.toInt + 0)) = some z from e6)
    exact e7
  have l1 : 0 ≤ (-1 * x1.toInt + (1 * x2.toInt + 0)) + 1 := by
    obtain ⟨z, e6, e7⟩ := m3 ([(1, -1), (2, 1)], 1) (List.mem_of_getElem? (i := 1) rfl)
    obtain rfl : (-1 * x1.toInt + (1 * x2.toInt + 0)) = z := Option.some.inj (show some (-1 * x1.toInt + (1 * x2.toInt + 0)) = some z from e6)
    exact e7
  have f0 : rB3 N K n p 171 [rR x0, rI x3] σ := by
    obtain ⟨w, e6, e7⟩ := m4 (2738, [0, 3]) (List.mem_of_getElem? (i := 0) rfl)
    obtain rfl : [rR x0, rI x3] = w := Option.some.inj (show some [rR x0, rI x3] = some w from e6)
    exact (rF_b (r := 2738) (by decide) rfl).mp e7
  have f0 := ro3_171.mp f0
  clear m1 m2 m3 m4
  have q0 : rB3 N K n p 397 [rR x0, rI x1, rI x2] σ := ro3_397.mpr (by
    rw [show x1.toInt - x2.toInt = x3.toInt + 1 by omega]
    exact f0)
  exact ⟨p, fun _ => rfl, ⟨(fun q h => by cases h), fun q h => (by cases h), (fun f h => by cases h), (aAllc ⟨_, rfl, (rF_b (r := 6355) (by decide) rfl).mpr q0⟩ (fun f h => by cases h))⟩, [], List.mem_cons_self, fun f h => (by cases h)⟩
theorem rw_riG3 {N : Int} {K : Nat → Nat} {n : Nat} {JX : (Nat → jcell) → Prop} : aGho (rH N K n) fa_T K n JX ag_riG3 := by
  refine aGho_of ⟨rfl, rfl⟩ ?_
  intro p σ ρ hH hX hA hM0
  have hG := aAG_of hA.1 (fun i e v he hv => (hA.2 i e v he hv).1)
  clear hA
  obtain ⟨v0, v1, v2, v3, rfl, g0, g1, g2, g3⟩ := rA_4 hG
  clear hG
  obtain ⟨x0, rfl, b0, d0⟩ := rG_ref (by decide) g0
  obtain ⟨x1, rfl, b1, d1⟩ := aG_int g1
  dsimp only at b1 d1
  obtain ⟨x2, rfl, b2, d2⟩ := aG_int g2
  dsimp only at b2 d2
  obtain ⟨x3, rfl, b3, d3⟩ := aG_int g3
  dsimp only at b3 d3
  obtain ⟨m1, m2, m3, m4⟩ := hM0
  obtain ⟨M, hM⟩ := rMe_ex hH b0 d0
  have l0 : 0 ≤ (1 * x3.toInt + (-1 * x1.toInt + (1 * x2.toInt + 0))) + 0 := by
    obtain ⟨z, e6, e7⟩ := m3 ([(3, 1), (1, -1), (2, 1)], 0) (List.mem_of_getElem? (i := 0) rfl)
    obtain rfl : (1 * x3.toInt + (-1 * x1.toInt + (1 * x2.toInt + 0))) = z := Option.some.inj (show some (1 * x3.toInt + (-1 * x1.toInt + (1 * x2.toInt + 0))) = some z from e6)
    exact e7
  have l1 : 0 ≤ (-1 * x3.toInt + (1 * x1.toInt + (-1 * x2.toInt + 0))) + 0 := by
    obtain ⟨z, e6, e7⟩ := m3 ([(3, -1), (1, 1), (2, -1)], 0) (List.mem_of_getElem? (i := 1) rfl)
    obtain rfl : (-1 * x3.toInt + (1 * x1.toInt + (-1 * x2.toInt + 0))) = z := Option.some.inj (show some (-1 * x3.toInt + (1 * x1.toInt + (-1 * x2.toInt + 0))) = some z from e6)
    exact e7
  have f0 : rB3 N K n p 397 [rR x0, rI x1, rI x2] σ := by
    obtain ⟨w, e6, e7⟩ := m4 (6355, [0, 1, 2]) (List.mem_of_getElem? (i := 0) rfl)
    obtain rfl : [rR x0, rI x1, rI x2] = w := Option.some.inj (show some [rR x0, rI x1, rI x2] = some w from e6)
    exact (rF_b (r := 6355) (by decide) rfl).mp e7
  have f0 := ro3_397.mp f0
  clear m1 m2 m3 m4
  have q0 : rB3 N K n p 170 [rR x0, rI x3] σ := ro3_170.mpr (by
    rw [show x3.toInt = x1.toInt - x2.toInt by omega]
    exact f0)
  exact ⟨p, fun _ => rfl, ⟨(fun q h => by cases h), fun q h => (by cases h), (fun f h => by cases h), (aAllc ⟨_, rfl, (rF_b (r := 2722) (by decide) rfl).mpr q0⟩ (fun f h => by cases h))⟩, [], List.mem_cons_self, fun f h => (by cases h)⟩
theorem rw_riG4 {N : Int} {K : Nat → Nat} {n : Nat} {JX : (Nat → jcell) → Prop} : aGho (rH N K n) fa_T K n JX ag_riG4 := by
  refine aGho_of ⟨rfl, rfl⟩ ?_
  intro p σ ρ hH hX hA hM0
  have hG := aAG_of hA.1 (fun i e v he hv => (hA.2 i e v he hv).1)
  clear hA
  obtain ⟨v0, v1, v2, v3, rfl, g0, g1, g2, g3⟩ := rA_4 hG
  clear hG
  obtain ⟨x0, rfl, b0, d0⟩ := rG_ref (by decide) g0
  obtain ⟨x1, rfl, b1, d1⟩ := aG_int g1
  dsimp only at b1 d1
  obtain ⟨x2, rfl, b2, d2⟩ := aG_int g2
  dsimp only at b2 d2
  obtain ⟨x3, rfl, b3, d3⟩ := aG_int g3
  dsimp only at b3 d3
  obtain ⟨m1, m2, m3, m4⟩ := hM0
  obtain ⟨M, hM⟩ := rMe_ex hH b0 d0
  have l0 : 0 ≤ (1 * x3.toInt + (-1 * x1.toInt + (1 * x2.toInt + 0))) + 1 := by
    obtain ⟨z, e6, e7⟩ := m3 ([(3, 1), (1, -1), (2, 1)], 1) (List.mem_of_getElem? (i := 0) rfl)
    obtain rfl : (1 * x3.toInt + (-1 * x1.toInt + (1 * x2.toInt + 0))) = z := Option.some.inj (show some (1 * x3.toInt + (-1 * x1.toInt + (1 * x2.toInt + 0))) = some z from e6)
    exact e7
  have l1 : 0 ≤ (-1 * x3.toInt + (1 * x1.toInt + (-1 * x2.toInt + 0))) + -1 := by
    obtain ⟨z, e6, e7⟩ := m3 ([(3, -1), (1, 1), (2, -1)], -1) (List.mem_of_getElem? (i := 1) rfl)
    obtain rfl : (-1 * x3.toInt + (1 * x1.toInt + (-1 * x2.toInt + 0))) = z := Option.some.inj (show some (-1 * x3.toInt + (1 * x1.toInt + (-1 * x2.toInt + 0))) = some z from e6)
    exact e7
  have f0 : rB3 N K n p 171 [rR x0, rI x3] σ := by
    obtain ⟨w, e6, e7⟩ := m4 (2738, [0, 3]) (List.mem_of_getElem? (i := 0) rfl)
    obtain rfl : [rR x0, rI x3] = w := Option.some.inj (show some [rR x0, rI x3] = some w from e6)
    exact (rF_b (r := 2738) (by decide) rfl).mp e7
  have f0 := ro3_171.mp f0
  clear m1 m2 m3 m4
  have q0 : rB3 N K n p 397 [rR x0, rI x1, rI x2] σ := ro3_397.mpr (by
    rw [show x1.toInt - x2.toInt = x3.toInt + 1 by omega]
    exact f0)
  exact ⟨p, fun _ => rfl, ⟨(fun q h => by cases h), fun q h => (by cases h), (fun f h => by cases h), (aAllc ⟨_, rfl, (rF_b (r := 6355) (by decide) rfl).mpr q0⟩ (fun f h => by cases h))⟩, [], List.mem_cons_self, fun f h => (by cases h)⟩
theorem rw_riG5 {N : Int} {K : Nat → Nat} {n : Nat} {JX : (Nat → jcell) → Prop} : aGho (rH N K n) fa_T K n JX ag_riG5 := by
  refine aGho_of ⟨rfl, rfl⟩ ?_
  intro p σ ρ hH hX hA hM0
  have hG := aAG_of hA.1 (fun i e v he hv => (hA.2 i e v he hv).1)
  clear hA
  obtain ⟨v0, v1, v2, rfl, g0, g1, g2⟩ := rA_3 hG
  clear hG
  obtain ⟨x0, rfl, b0, d0⟩ := rG_ref (by decide) g0
  obtain ⟨x1, rfl, b1, d1⟩ := aG_int g1
  dsimp only at b1 d1
  obtain ⟨x2, rfl, b2, d2⟩ := aG_int g2
  dsimp only at b2 d2
  obtain ⟨m1, m2, m3, m4⟩ := hM0
  obtain ⟨M, hM⟩ := rMe_ex hH b0 d0
  have f0 : rB3 N K n p 397 [rR x0, rI x1, rI x2] σ := by
    obtain ⟨w, e6, e7⟩ := m4 (6355, [0, 1, 2]) (List.mem_of_getElem? (i := 0) rfl)
    obtain rfl : [rR x0, rI x1, rI x2] = w := Option.some.inj (show some [rR x0, rI x1, rI x2] = some w from e6)
    exact (rF_b (r := 6355) (by decide) rfl).mp e7
  have f0 := ro3_397.mp f0
  clear m1 m2 m3 m4
  have q0 : rB3 N K n p 171 [rR x0, rI x1] σ := ro3_171.mpr (by
    rw [show x1.toInt + 1 = x1.toInt - x2.toInt by omega]
    exact f0)
  exact ⟨p, fun _ => rfl, ⟨(fun q h => by cases h), fun q h => (by cases h), (fun f h => by cases h), (aAllc ⟨_, rfl, (rF_b (r := 2738) (by decide) rfl).mpr q0⟩ (fun f h => by cases h))⟩, [], List.mem_cons_self, fun f h => (by cases h)⟩
theorem rw_riSd {N : Int} {K : Nat → Nat} {n : Nat} {JX : (Nat → jcell) → Prop} : aGho (rH N K n) fa_T K n JX ag_riSd := by
  refine aGho_of ⟨rfl, rfl⟩ ?_
  intro p σ ρ hH hX hA hM0
  have hG := aAG_of hA.1 (fun i e v he hv => (hA.2 i e v he hv).1)
  clear hA
  obtain ⟨v0, v1, v2, v3, rfl, g0, g1, g2, g3⟩ := rA_4 hG
  clear hG
  obtain ⟨x0, rfl, b0, d0⟩ := rG_ref (by decide) g0
  obtain ⟨x1, rfl, b1, d1⟩ := aG_int g1
  dsimp only at b1 d1
  obtain ⟨x2, rfl, b2, d2⟩ := aG_int g2
  dsimp only at b2 d2
  obtain ⟨x3, rfl, b3, d3⟩ := aG_int g3
  dsimp only at b3 d3
  obtain ⟨m1, m2, m3, m4⟩ := hM0
  obtain ⟨M, hM⟩ := rMe_ex hH b0 d0
  obtain ⟨a0, c0, fs0, w0, e1, s0, t0, e4⟩ := m1 (0, 3, 3) (List.mem_of_getElem? (i := 0) rfl)
  obtain rfl : x0 = a0 := Sum.inl.inj (Option.some.inj (Sum.inr.inj (Sum.inr.inj (Option.some.inj (show some (rR x0) = some _ from e1)))))
  obtain rfl : rI x3 = w0 := Option.some.inj (show some (rI x3) = some w0 from e4)
  clear e1 e4
  have f0 : rB3 N K n (rSh rS1 p [rR x0, rI x1]) 22 [rR x0] σ := by
    obtain ⟨w, e6, e7⟩ := m4 (353, [0, 0, 1]) (List.mem_of_getElem? (i := 0) rfl)
    obtain rfl : [rR x0, rR x0, rI x1] = w := Option.some.inj (show some [rR x0, rR x0, rI x1] = some w from e6)
    exact (rF_g (r := 353) (by decide)).mp e7
  obtain ⟨hq9, hR⟩ := ro3_22.mp f0
  have hp : p.2 = none := rSh_n1 hq9
  clear hq9
  rw [rSh_mk hp] at hR
  obtain rfl : M = rM4 p.1 x1.toInt := rMg_u hM hR.1
  have uS : (rMk p.1 x1.toInt).2.1 = x3.toInt := rRX_f hR.2.1 s0 t0
  have f1 : rB3 N K n p 67 [rI x2] σ := by
    obtain ⟨w, e6, e7⟩ := m4 (1073, [2]) (List.mem_of_getElem? (i := 1) rfl)
    obtain rfl : [rI x2] = w := Option.some.inj (show some [rI x2] = some w from e6)
    exact (rF_b (r := 1073) (by decide) rfl).mp e7
  have f1 := ro3_67.mp f1
  clear m1 m2 m3 m4
  have r0 : 0 ≤ (1 * x2.toInt + (1 * x3.toInt + 0)) + -1 := by
    have h1 : 1 - p.1.2.1 = x3.toInt := rRX_f hR.2.1 s0 t0
    have h2 := f1
    omega
  have r1 : 0 ≤ (-1 * x2.toInt + (-1 * x3.toInt + 0)) + 1 := by
    have h1 : 1 - p.1.2.1 = x3.toInt := rRX_f hR.2.1 s0 t0
    have h2 := f1
    omega
  exact ⟨p, fun _ => rfl, ⟨(fun q h => by cases h), fun q h => (by cases h), (aAllc ⟨_, rfl, r0⟩ (aAllc ⟨_, rfl, r1⟩ (fun f h => by cases h))), (fun f h => by cases h)⟩, [], List.mem_cons_self, fun f h => (by cases h)⟩

