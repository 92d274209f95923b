/-! the reference: rules of u4 -/
theorem rw_ryC0 {K : Nat → Nat} {n : Nat} {JX : (Nat → jcell) → Prop} : aGho (rG K n) fa_T K n JX ag_ryC0 := by
  refine aGho_n1 (b := (0, 301)) rfl rfl ?_
  intro p σ ρ hH hX hA hM0
  have hG := aAG_of hA.1 (fun i e v he hv => (hA.2 i e v he hv).1)
  clear hA
  obtain ⟨v0, v1, v2, v3, v4, rfl, g0, g1, g2, g3, g4⟩ := rA_5 hG
  clear hG
  obtain ⟨x0, rfl, b0, d0⟩ := rG_ref (by decide) g0
  obtain ⟨x1, rfl, b1, d1⟩ := aG_int g1
  dsimp only at b1 d1
  obtain ⟨x2, rfl, b2, d2⟩ := aG_int g2
  dsimp only at b2 d2
  obtain ⟨x3, rfl, b3, d3⟩ := aG_int g3
  dsimp only at b3 d3
  obtain ⟨x4, rfl, b4, d4⟩ := rG_ref (by decide) g4
  obtain ⟨m1, m2, m3, m4⟩ := hM0
  obtain ⟨T, hT⟩ := rTe_ex hH b0 d0
  obtain ⟨a0, c0, fs0, w0, e1, s0, t0, e4⟩ := m1 (0, 10, 4) (List.mem_of_getElem? (i := 0) rfl)
  obtain rfl : x0 = a0 := Sum.inl.inj (Option.some.inj (Sum.inr.inj (Sum.inr.inj (Option.some.inj (show some (rR x0) = some _ from e1)))))
  obtain rfl : rR x4 = w0 := Option.some.inj (show some (rR x4) = some w0 from e4)
  clear e1 e4
  obtain ⟨a, mc0, ty0, gc0, ic0, e1, sc0, jc0, e4, e5⟩ := m2 (4, ([(1, 301), (2, 1)], 0), 3) (List.mem_of_getElem? (i := 0) rfl)
  obtain rfl : x4 = a := Sum.inl.inj (Option.some.inj (Sum.inr.inj (Sum.inr.inj (Option.some.inj (show some (rR x4) = some _ from e1)))))
  obtain ⟨gc0, rfl⟩ : ∃ g, gc0 = .inl g := by
    rcases gc0 with g | g
    · exact ⟨g, rfl⟩
    · exact absurd (show some (rI x3) = some (.inr (.inl (g ic0))) from e5) (fun h => by cases h)
  have sc0 : σ x4 = .inl (ty0, mc0, .inl gc0) := sc0
  have ec0 : x3 = gc0 ic0 := Sum.inl.inj (Option.some.inj (show some (rI x3) = some _ from e5))
  have kc0 : (ic0 : Int) = (301 * x1.toInt + (1 * x2.toInt + 0)) + 0 := by
    obtain ⟨z, e6, e7⟩ := e4
    obtain rfl : (301 * x1.toInt + (1 * x2.toInt + 0)) = z := Option.some.inj (show some (301 * x1.toInt + (1 * x2.toInt + 0)) = some z from e6)
    exact e7
  clear e1 e4 e5
  have f0 : rB2 K n p 241 [rR x0, rI x1, rI x2] σ := by
    obtain ⟨w, e6, e7⟩ := m4 (3859, [0, 1, 2]) (List.mem_of_getElem? (i := 0) rfl)
    obtain rfl : [rR x0, rI x1, rI x2] = w := Option.some.inj (show some [rR x0, rI x1, rI x2] = some w from e6)
    exact (rF_b (r := 3859) (by decide) rfl).mp e7
  obtain ⟨C, y, hY, f0⟩ := ro2_241.mp f0
  clear m1 m2 m3 m4
  have y0 : y.2.2.1 x2.toInt = x3.toInt := rSc_c hY.1.2.2.1 s0 t0 sc0 ec0 (by omega)
  obtain ⟨L, n1, n2, n3, n4⟩ := rTr_L hY.2.2 f0.1 f0.2
  obtain ⟨x5, e5⟩ := rI32 (z := (L.length : Int)) (by omega) (by omega)
  have b5 : 0 ≤ x5.toInt := by omega
  have d5 : x5.toInt ≤ 301 := by omega
  have q0 : rB2 K n p 242 [rR x0, rI x1, rI x3, rI x5] σ := ro2_242.mpr ⟨C, y, hY, by
    exact ⟨L, by rw [← y0]; exact n2, fun c hc => by have := (n3 c).mp hc; omega, by omega⟩⟩
  exact ⟨p, x5, fun _ => rfl, b5, d5, ⟨(fun q h => by cases h), fun q h => (by cases h), (fun f h => by cases h), (aAllc ⟨_, rfl, (rF_b (r := 3876) (by decide) rfl).mpr q0⟩ (fun f h => by cases h))⟩, [], List.mem_cons_self, fun f h => (by cases h)⟩
theorem rw_ryCn {K : Nat → Nat} {n : Nat} {JX : (Nat → jcell) → Prop} : aGho (rG K n) fa_T K n JX ag_ryCn := by
  refine aGho_n1 (b := (0, 301)) rfl rfl ?_
  intro p σ ρ hH hX hA hM0
  have hG := aAG_of hA.1 (fun i e v he hv => (hA.2 i e v he hv).1)
  clear hA
  obtain ⟨v0, v1, v2, v3, v4, v5, rfl, g0, g1, g2, g3, g4, g5⟩ := rA_6 hG
  clear hG
  obtain ⟨x0, rfl, b0, d0⟩ := rG_ref (by decide) g0
  obtain ⟨x1, rfl, b1, d1⟩ := aG_int g1
  dsimp only at b1 d1
  obtain ⟨x2, rfl, b2, d2⟩ := aG_int g2
  dsimp only at b2 d2
  obtain ⟨x3, rfl, b3, d3⟩ := aG_int g3
  dsimp only at b3 d3
  obtain ⟨x4, rfl, b4, d4⟩ := aG_int g4
  dsimp only at b4 d4
  obtain ⟨x5, rfl, b5, d5⟩ := rG_ref (by decide) g5
  obtain ⟨m1, m2, m3, m4⟩ := hM0
  obtain ⟨T, hT⟩ := rTe_ex hH b0 d0
  obtain ⟨a0, c0, fs0, w0, e1, s0, t0, e4⟩ := m1 (0, 11, 5) (List.mem_of_getElem? (i := 0) rfl)
  obtain rfl : x0 = a0 := Sum.inl.inj (Option.some.inj (Sum.inr.inj (Sum.inr.inj (Option.some.inj (show some (rR x0) = some _ from e1)))))
  obtain rfl : rR x5 = w0 := Option.some.inj (show some (rR x5) = some w0 from e4)
  clear e1 e4
  obtain ⟨a, mc0, ty0, gc0, ic0, e1, sc0, jc0, e4, e5⟩ := m2 (5, ([(1, 301), (2, 1)], 0), 4) (List.mem_of_getElem? (i := 0) rfl)
  obtain rfl : x5 = a := Sum.inl.inj (Option.some.inj (Sum.inr.inj (Sum.inr.inj (Option.some.inj (show some (rR x5) = some _ from e1)))))
  obtain ⟨gc0, rfl⟩ : ∃ g, gc0 = .inl g := by
    rcases gc0 with g | g
    · exact ⟨g, rfl⟩
    · exact absurd (show some (rI x4) = some (.inr (.inl (g ic0))) from e5) (fun h => by cases h)
  have sc0 : σ x5 = .inl (ty0, mc0, .inl gc0) := sc0
  have ec0 : x4 = gc0 ic0 := Sum.inl.inj (Option.some.inj (show some (rI x4) = some _ from e5))
  have kc0 : (ic0 : Int) = (301 * x1.toInt + (1 * x2.toInt + 0)) + 0 := by
    obtain ⟨z, e6, e7⟩ := e4
    obtain rfl : (301 * x1.toInt + (1 * x2.toInt + 0)) = z := Option.some.inj (show some (301 * x1.toInt + (1 * x2.toInt + 0)) = some z from e6)
    exact e7
  clear e1 e4 e5
  have f0 : rB2 K n p 242 [rR x0, rI x1, rI x2, rI x3] σ := by
    obtain ⟨w, e6, e7⟩ := m4 (3876, [0, 1, 2, 3]) (List.mem_of_getElem? (i := 0) rfl)
    obtain rfl : [rR x0, rI x1, rI x2, rI x3] = w := Option.some.inj (show some [rR x0, rI x1, rI x2, rI x3] = some w from e6)
    exact (rF_b (r := 3876) (by decide) rfl).mp e7
  obtain ⟨C, y, hY, f0⟩ := ro2_242.mp f0
  clear m1 m2 m3 m4
  have y0 : y.2.2.2.1 x2.toInt = x4.toInt := rSc_c hY.1.2.2.2.1 s0 t0 sc0 ec0 (by omega)
  obtain ⟨L, k1, k2, k3⟩ := f0
  obtain ⟨c, r, rfl⟩ : ∃ c r, L = c :: r := by
    match L, k1 with
    | [], k1 => have e : x2.toInt = -1 := k1; omega
    | c :: r, _ => exact ⟨c, r, rfl⟩
  have l1 : x2.toInt = c := k1.1
  have l2 := k1.2
  have l3 : (c :: r).length = r.length + 1 := rfl
  obtain ⟨x6, e6⟩ := rI32 (z := (r.length : Int)) (by omega) (by omega)
  have b6 : 0 ≤ x6.toInt := by omega
  have d6 : x6.toInt ≤ 301 := by omega
  have r0 : 0 ≤ (1 * x3.toInt + (-1 * x6.toInt + 0)) + -1 := by
    omega
  have q0 : rB2 K n p 242 [rR x0, rI x1, rI x4, rI x6] σ := ro2_242.mpr ⟨C, y, hY, by
    exact ⟨r, by rw [← y0, l1]; exact l2, fun c hc => k2 c (List.mem_cons_of_mem _ hc), by omega⟩⟩
  exact ⟨p, x6, fun _ => rfl, b6, d6, ⟨(fun q h => by cases h), fun q h => (by cases h), (aAllc ⟨_, rfl, r0⟩ (fun f h => by cases h)), (aAllc ⟨_, rfl, (rF_b (r := 3876) (by decide) rfl).mpr q0⟩ (fun f h => by cases h))⟩, [], List.mem_cons_self, fun f h => (by cases h)⟩
theorem rw_ryCe {K : Nat → Nat} {n : Nat} {JX : (Nat → jcell) → Prop} : aGho (rG K n) fa_T K n JX ag_ryCe := by
  refine aGho_of ⟨rfl, rfl⟩ ?_
  intro p σ ρ hH hX hA hM0
  have hG := aAG_of hA.1 (fun i e v he hv => (hA.2 i e v he hv).1)
  clear hA
  obtain ⟨v0, v1, v2, v3, rfl, g0, g1, g2, g3⟩ := rA_4 hG
  clear hG
  obtain ⟨x0, rfl, b0, d0⟩ := rG_ref (by decide) g0
  obtain ⟨x1, rfl, b1, d1⟩ := aG_int g1
  dsimp only at b1 d1
  obtain ⟨x2, rfl, b2, d2⟩ := aG_int g2
  dsimp only at b2 d2
  obtain ⟨x3, rfl, b3, d3⟩ := aG_int g3
  dsimp only at b3 d3
  obtain ⟨m1, m2, m3, m4⟩ := hM0
  obtain ⟨T, hT⟩ := rTe_ex hH b0 d0
  have f0 : rB2 K n p 242 [rR x0, rI x1, rI x2, rI x3] σ := by
    obtain ⟨w, e6, e7⟩ := m4 (3876, [0, 1, 2, 3]) (List.mem_of_getElem? (i := 0) rfl)
    obtain rfl : [rR x0, rI x1, rI x2, rI x3] = w := Option.some.inj (show some [rR x0, rI x1, rI x2, rI x3] = some w from e6)
    exact (rF_b (r := 3876) (by decide) rfl).mp e7
  obtain ⟨C, y, hY, f0⟩ := ro2_242.mp f0
  clear m1 m2 m3 m4
  have q0 : rB2 K n p 238 [rR x0, rI x1, rI x2] σ := ro2_238.mpr ⟨C, y, hY, by
    intro h0
    obtain ⟨L, k1, k2, k3⟩ := f0
    match L, k1, k2 with
    | [], k1, _ => have e : x2.toInt = -1 := k1; omega
    | c :: r, k1, k2 =>
      have e : x2.toInt = c := k1.1
      have := k2 c List.mem_cons_self
      omega⟩
  exact ⟨p, fun _ => rfl, ⟨(fun q h => by cases h), fun q h => (by cases h), (fun f h => by cases h), (aAllc ⟨_, rfl, (rF_b (r := 3811) (by decide) rfl).mpr q0⟩ (fun f h => by cases h))⟩, [], List.mem_cons_self, fun f h => (by cases h)⟩
theorem rw_rzP0 {K : Nat → Nat} {n : Nat} {JX : (Nat → jcell) → Prop} : aGho (rG K n) fa_T K n JX ag_rzP0 := by
  refine aGho_of ⟨rfl, rfl⟩ ?_
  intro p σ ρ hH hX hA hM0
  have hG := aAG_of hA.1 (fun i e v he hv => (hA.2 i e v he hv).1)
  clear hA
  obtain ⟨v0, v1, v2, v3, rfl, g0, g1, g2, g3⟩ := rA_4 hG
  clear hG
  obtain ⟨x0, rfl, b0, d0⟩ := rG_ref (by decide) g0
  obtain ⟨x1, rfl, b1, d1⟩ := aG_int g1
  dsimp only at b1 d1
  obtain ⟨x2, rfl, b2, d2⟩ := aG_int g2
  dsimp only at b2 d2
  obtain ⟨x3, rfl, b3, d3⟩ := aG_int g3
  dsimp only at b3 d3
  obtain ⟨m1, m2, m3, m4⟩ := hM0
  obtain ⟨T, hT⟩ := rTe_ex hH b0 d0
  have f0 : rB2 K n p 241 [rR x0, rI x1, rI x2] σ := by
    obtain ⟨w, e6, e7⟩ := m4 (3859, [0, 1, 2]) (List.mem_of_getElem? (i := 0) rfl)
    obtain rfl : [rR x0, rI x1, rI x2] = w := Option.some.inj (show some [rR x0, rI x1, rI x2] = some w from e6)
    exact (rF_b (r := 3859) (by decide) rfl).mp e7
  obtain ⟨C, y, hY, f0⟩ := ro2_241.mp f0
  clear m1 m2 m3 m4
  have q0 : rB2 K n p 246 [rR x0, rI x1, rI x2, rI x3, rI x2] σ := ro2_246.mpr (by
    obtain ⟨g, r⟩ := rRo_ex (ko := 62) (f := 34) (kr := 86) (len := 301) hH rfl rfl rfl (by decide) b0 d0
    refine ⟨C, y, hY, f0.1, f0.2, b3, ⟨g, r, fun i i0 i1 => by omega⟩, ?_, f0.1, f0.2⟩
    rw [show x3.toInt.toNat = 0 by omega]
    rfl)
  exact ⟨p, fun _ => rfl, ⟨(fun q h => by cases h), fun q h => (by cases h), (fun f h => by cases h), (aAllc ⟨_, rfl, (rF_b (r := 3941) (by decide) rfl).mpr q0⟩ (fun f h => by cases h))⟩, [], List.mem_cons_self, fun f h => (by cases h)⟩
theorem rw_rzPs {K : Nat → Nat} {n : Nat} {JX : (Nat → jcell) → Prop} : aGho (rG K n) fa_T K n JX ag_rzPs := by
  refine aGho_of ⟨rfl, rfl⟩ ?_
  intro p σ ρ hH hX hA hM0
  have hG := aAG_of hA.1 (fun i e v he hv => (hA.2 i e v he hv).1)
  clear hA
  obtain ⟨v0, v1, v2, v3, v4, v5, rfl, g0, g1, g2, g3, g4, g5⟩ := rA_6 hG
  clear hG
  obtain ⟨x0, rfl, b0, d0⟩ := rG_ref (by decide) g0
  obtain ⟨x1, rfl, b1, d1⟩ := rG_ref (by decide) g1
  obtain ⟨x2, rfl, b2, d2⟩ := aG_int g2
  dsimp only at b2 d2
  obtain ⟨x3, rfl, b3, d3⟩ := aG_int g3
  dsimp only at b3 d3
  obtain ⟨x4, rfl, b4, d4⟩ := aG_int g4
  dsimp only at b4 d4
  obtain ⟨x5, rfl, b5, d5⟩ := aG_int g5
  dsimp only at b5 d5
  obtain ⟨m1, m2, m3, m4⟩ := hM0
  obtain ⟨T, hT⟩ := rTe_ex hH b0 d0
  obtain ⟨a0, c0, fs0, w0, e1, s0, t0, e4⟩ := m1 (0, 34, 1) (List.mem_of_getElem? (i := 0) rfl)
  obtain rfl : x0 = a0 := Sum.inl.inj (Option.some.inj (Sum.inr.inj (Sum.inr.inj (Option.some.inj (show some (rR x0) = some _ from e1)))))
  obtain rfl : rR x1 = w0 := Option.some.inj (show some (rR x1) = some w0 from e4)
  clear e1 e4
  have f0 : rB2 K n p 246 [rR x0, rI x2, rI x3, rI x4, rI x5] σ := by
    obtain ⟨w, e6, e7⟩ := m4 (3941, [0, 2, 3, 4, 5]) (List.mem_of_getElem? (i := 0) rfl)
    obtain rfl : [rR x0, rI x2, rI x3, rI x4, rI x5] = w := Option.some.inj (show some [rR x0, rI x2, rI x3, rI x4, rI x5] = some w from e6)
    exact (rF_b (r := 3941) (by decide) rfl).mp e7
  have f0 := ro2_246.mp f0
  clear m1 m2 m3 m4
  have q0 : rB2 K n p 247 [rR x0, rI x2, rI x3, rI x4, rI x5] (jup σ x1 (jsto (σ x1) x4.toNatClampNeg x5)) := ro2_247.mpr (by
    obtain ⟨C, y, hY, k1, k2, k3, ⟨g, r, k4⟩, k5, k6, k7⟩ := f0
    refine ⟨C, y, rTY_o hY (Or.inl d1), k1, k2, k3, ⟨_, rRo_up r s0 t0, fun i i0 i1 => ?_⟩, k5, b5, k7⟩
    have hi : x4.toNatClampNeg = x4.toInt.toNat := rfl
    unfold upd
    by_cases ci : i = x4.toInt
    · rw [if_pos (by rw [hi]; omega), ci]
      omega
    · rw [if_neg (by rw [hi]; omega)]
      exact k4 i i0 (by omega))
  exact ⟨p, fun _ => rfl, ⟨(fun q h => by cases h), fun q h => (by cases h), (fun f h => by cases h), (aAllc ⟨_, rfl, rF_p (r := 3957) (by decide) (by decide) q0⟩ (fun f h => by cases h))⟩, [], List.mem_cons_self, fun f h => (by cases h)⟩
theorem rw_rzPn {K : Nat → Nat} {n : Nat} {JX : (Nat → jcell) → Prop} : aGho (rG K n) fa_T K n JX ag_rzPn := by
  refine aGho_of ⟨rfl, rfl⟩ ?_
  intro p σ ρ hH hX hA hM0
  have hG := aAG_of hA.1 (fun i e v he hv => (hA.2 i e v he hv).1)
  clear hA
  obtain ⟨v0, v1, v2, v3, v4, v5, v6, v7, rfl, g0, g1, g2, g3, g4, g5, g6, g7⟩ := rA_8 hG
  clear hG
  obtain ⟨x0, rfl, b0, d0⟩ := rG_ref (by decide) g0
  obtain ⟨x1, rfl, b1, d1⟩ := aG_int g1
  dsimp only at b1 d1
  obtain ⟨x2, rfl, b2, d2⟩ := aG_int g2
  dsimp only at b2 d2
  obtain ⟨x3, rfl, b3, d3⟩ := aG_int g3
  dsimp only at b3 d3
  obtain ⟨x4, rfl, b4, d4⟩ := aG_int g4
  dsimp only at b4 d4
  obtain ⟨x5, rfl, b5, d5⟩ := aG_int g5
  dsimp only at b5 d5
  obtain ⟨x6, rfl, b6, d6⟩ := aG_int g6
  dsimp only at b6 d6
  obtain ⟨x7, rfl, b7, d7⟩ := rG_ref (by decide) g7
  obtain ⟨m1, m2, m3, m4⟩ := hM0
  obtain ⟨T, hT⟩ := rTe_ex hH b0 d0
  obtain ⟨a0, c0, fs0, w0, e1, s0, t0, e4⟩ := m1 (0, 8, 7) (List.mem_of_getElem? (i := 0) rfl)
  obtain rfl : x0 = a0 := Sum.inl.inj (Option.some.inj (Sum.inr.inj (Sum.inr.inj (Option.some.inj (show some (rR x0) = some _ from e1)))))
  obtain rfl : rR x7 = w0 := Option.some.inj (show some (rR x7) = some w0 from e4)
  clear e1 e4
  obtain ⟨a, mc0, ty0, gc0, ic0, e1, sc0, jc0, e4, e5⟩ := m2 (7, ([(1, 301), (4, 1)], 0), 6) (List.mem_of_getElem? (i := 0) rfl)
  obtain rfl : x7 = a := Sum.inl.inj (Option.some.inj (Sum.inr.inj (Sum.inr.inj (Option.some.inj (show some (rR x7) = some _ from e1)))))
  obtain ⟨gc0, rfl⟩ : ∃ g, gc0 = .inl g := by
    rcases gc0 with g | g
    · exact ⟨g, rfl⟩
    · exact absurd (show some (rI x6) = some (.inr (.inl (g ic0))) from e5) (fun h => by cases h)
  have sc0 : σ x7 = .inl (ty0, mc0, .inl gc0) := sc0
  have ec0 : x6 = gc0 ic0 := Sum.inl.inj (Option.some.inj (show some (rI x6) = some _ from e5))
  have kc0 : (ic0 : Int) = (301 * x1.toInt + (1 * x4.toInt + 0)) + 0 := by
    obtain ⟨z, e6, e7⟩ := e4
    obtain rfl : (301 * x1.toInt + (1 * x4.toInt + 0)) = z := Option.some.inj (show some (301 * x1.toInt + (1 * x4.toInt + 0)) = some z from e6)
    exact e7
  clear e1 e4 e5
  have l0 : 0 ≤ (1 * x5.toInt + (-1 * x3.toInt + 0)) + -1 := by
    obtain ⟨z, e6, e7⟩ := m3 ([(5, 1), (3, -1)], -1) (List.mem_of_getElem? (i := 0) rfl)
    obtain rfl : (1 * x5.toInt + (-1 * x3.toInt + 0)) = z := Option.some.inj (show some (1 * x5.toInt + (-1 * x3.toInt + 0)) = some z from e6)
    exact e7
  have l1 : 0 ≤ (-1 * x5.toInt + (1 * x3.toInt + 0)) + 1 := by
    obtain ⟨z, e6, e7⟩ := m3 ([(5, -1), (3, 1)], 1) (List.mem_of_getElem? (i := 1) rfl)
    obtain rfl : (-1 * x5.toInt + (1 * x3.toInt + 0)) = z := Option.some.inj (show some (-1 * x5.toInt + (1 * x3.toInt + 0)) = some z from e6)
    exact e7
  have f0 : rB2 K n p 247 [rR x0, rI x1, rI x2, rI x3, rI x4] σ := by
    obtain ⟨w, e6, e7⟩ := m4 (3957, [0, 1, 2, 3, 4]) (List.mem_of_getElem? (i := 0) rfl)
    obtain rfl : [rR x0, rI x1, rI x2, rI x3, rI x4] = w := Option.some.inj (show some [rR x0, rI x1, rI x2, rI x3, rI x4] = some w from e6)
    exact (rF_b (r := 3957) (by decide) rfl).mp e7
  have f0 := ro2_247.mp f0
  clear m1 m2 m3 m4
  obtain ⟨C, y, hY, k1, k2, k3, ⟨g, r, k4⟩, k5, k6, k7⟩ := f0
  have y0 : y.1 x4.toInt = x6.toInt := rSc_c hY.1.1 s0 t0 sc0 ec0 (by omega)
  have hpr := hY.2.2.2.1 x4.toInt k6 k7
  rw [y0] at hpr
  have r0 : 0 ≤ (1 * x6.toInt + 0) + 0 := by
    omega
  have r1 : 0 ≤ (1 * x4.toInt + (-1 * x6.toInt + 0)) + -1 := by
    omega
  have q0 : rB2 K n p 246 [rR x0, rI x1, rI x2, rI x5, rI x6] σ := ro2_246.mpr (by
    refine ⟨C, y, hY, k1, k2, by omega, ⟨g, r, fun i i0 i1 => k4 i i0 (by omega)⟩, ?_, hpr.1, by omega⟩
    rw [show x5.toInt.toNat = x3.toInt.toNat + 1 by omega]
    show x6.toInt = y.1 (rUa y.1 x3.toInt.toNat x2.toInt)
    rw [← k5, y0])
  exact ⟨p, fun _ => rfl, ⟨(fun q h => by cases h), fun q h => (by cases h), (aAllc ⟨_, rfl, r0⟩ (aAllc ⟨_, rfl, r1⟩ (fun f h => by cases h))), (aAllc ⟨_, rfl, (rF_b (r := 3941) (by decide) rfl).mpr q0⟩ (fun f h => by cases h))⟩, [], List.mem_cons_self, fun f h => (by cases h)⟩
theorem rw_rzM0 {K : Nat → Nat} {n : Nat} {JX : (Nat → jcell) → Prop} : aGho (rG K n) fa_T K n JX ag_rzM0 := by
  refine aGho_of ⟨rfl, rfl⟩ ?_
  intro p σ ρ hH hX hA hM0
  have hG := aAG_of hA.1 (fun i e v he hv => (hA.2 i e v he hv).1)
  clear hA
  obtain ⟨v0, v1, v2, rfl, g0, g1, g2⟩ := rA_3 hG
  clear hG
  obtain ⟨x0, rfl, b0, d0⟩ := rG_ref (by decide) g0
  obtain ⟨x1, rfl, b1, d1⟩ := aG_int g1
  dsimp only at b1 d1
  obtain ⟨x2, rfl, b2, d2⟩ := aG_int g2
  dsimp only at b2 d2
  obtain ⟨m1, m2, m3, m4⟩ := hM0
  obtain ⟨T, hT⟩ := rTe_ex hH b0 d0
  clear m1 m2 m3 m4
  have q0 : rB2 K n p 248 [rR x0, rI x1, rI x2] σ := ro2_248.mpr (by
    obtain ⟨g5, rg5⟩ := rRo_ex (ko := 62) (f := 16) (kr := 74) (len := 128) hH rfl rfl rfl (by decide) b0 d0
    obtain ⟨gm, rgm⟩ := rRo_ex (ko := 62) (f := 24) (kr := 82) (len := 64) hH rfl rfl rfl (by decide) b0 d0
    exact ⟨b1, g5, gm, rg5, rgm, fun j j0 j1 => by omega⟩)
  exact ⟨p, fun _ => rfl, ⟨(fun q h => by cases h), fun q h => (by cases h), (fun f h => by cases h), (aAllc ⟨_, rfl, (rF_b (r := 3971) (by decide) rfl).mpr q0⟩ (fun f h => by cases h))⟩, [], List.mem_cons_self, fun f h => (by cases h)⟩
theorem rw_rzMs {K : Nat → Nat} {n : Nat} {JX : (Nat → jcell) → Prop} : aGho (rG K n) fa_T K n JX ag_rzMs := by
  refine aGho_of ⟨rfl, rfl⟩ ?_
  intro p σ ρ hH hX hA hM0
  have hG := aAG_of hA.1 (fun i e v he hv => (hA.2 i e v he hv).1)
  clear hA
  obtain ⟨v0, v1, v2, v3, v4, v5, rfl, g0, g1, g2, g3, g4, g5⟩ := rA_6 hG
  clear hG
  obtain ⟨x0, rfl, b0, d0⟩ := rG_ref (by decide) g0
  obtain ⟨x1, rfl, b1, d1⟩ := rG_ref (by decide) g1
  obtain ⟨x2, rfl, b2, d2⟩ := aG_int g2
  dsimp only at b2 d2
  obtain ⟨x3, rfl, b3, d3⟩ := aG_int g3
  dsimp only at b3 d3
  obtain ⟨x4, rfl, b4, d4⟩ := aG_int g4
  dsimp only at b4 d4
  obtain ⟨x5, rfl, b5, d5⟩ := rG_ref (by decide) g5
  obtain ⟨m1, m2, m3, m4⟩ := hM0
  obtain ⟨T, hT⟩ := rTe_ex hH b0 d0
  obtain ⟨a0, c0, fs0, w0, e1, s0, t0, e4⟩ := m1 (0, 16, 5) (List.mem_of_getElem? (i := 0) rfl)
  obtain rfl : x0 = a0 := Sum.inl.inj (Option.some.inj (Sum.inr.inj (Sum.inr.inj (Option.some.inj (show some (rR x0) = some _ from e1)))))
  obtain rfl : rR x5 = w0 := Option.some.inj (show some (rR x5) = some w0 from e4)
  clear e1 e4
  obtain ⟨a1, c1, fs1, w1, e1, s1, t1, e4⟩ := m1 (0, 24, 1) (List.mem_of_getElem? (i := 1) rfl)
  obtain rfl : x0 = a1 := Sum.inl.inj (Option.some.inj (Sum.inr.inj (Sum.inr.inj (Option.some.inj (show some (rR x0) = some _ from e1)))))
  obtain rfl : rR x1 = w1 := Option.some.inj (show some (rR x1) = some w1 from e4)
  clear e1 e4
  obtain ⟨a, mc0, ty0, gc0, ic0, e1, sc0, jc0, e4, e5⟩ := m2 (5, ([(2, 64), (3, 1)], 0), 4) (List.mem_of_getElem? (i := 0) rfl)
  obtain rfl : x5 = a := Sum.inl.inj (Option.some.inj (Sum.inr.inj (Sum.inr.inj (Option.some.inj (show some (rR x5) = some _ from e1)))))
  obtain ⟨gc0, rfl⟩ : ∃ g, gc0 = .inl g := by
    rcases gc0 with g | g
    · exact ⟨g, rfl⟩
    · exact absurd (show some (rI x4) = some (.inr (.inl (g ic0))) from e5) (fun h => by cases h)
  have sc0 : σ x5 = .inl (ty0, mc0, .inl gc0) := sc0
  have ec0 : x4 = gc0 ic0 := Sum.inl.inj (Option.some.inj (show some (rI x4) = some _ from e5))
  have kc0 : (ic0 : Int) = (64 * x2.toInt + (1 * x3.toInt + 0)) + 0 := by
    obtain ⟨z, e6, e7⟩ := e4
    obtain rfl : (64 * x2.toInt + (1 * x3.toInt + 0)) = z := Option.some.inj (show some (64 * x2.toInt + (1 * x3.toInt + 0)) = some z from e6)
    exact e7
  clear e1 e4 e5
  have f0 : rB2 K n p 248 [rR x0, rI x2, rI x3] σ := by
    obtain ⟨w, e6, e7⟩ := m4 (3971, [0, 2, 3]) (List.mem_of_getElem? (i := 0) rfl)
    obtain rfl : [rR x0, rI x2, rI x3] = w := Option.some.inj (show some [rR x0, rI x2, rI x3] = some w from e6)
    exact (rF_b (r := 3971) (by decide) rfl).mp e7
  have f0 := ro2_248.mp f0
  clear m1 m2 m3 m4
  have q0 : rB2 K n p 249 [rR x0, rI x2, rI x3] (jup σ x1 (jsto (σ x1) x3.toNatClampNeg x4)) := ro2_249.mpr (by
    obtain ⟨k0, g5, gm, r5, rm, kk⟩ := f0
    have e5 := rRo_c (i := ic0) r5 s0 t0 sc0 ec0
    refine ⟨k0, g5, _, rRo_o r5 (by omega) (by omega), rRo_up rm s1 t1, fun j j0 j1 j2 => ?_⟩
    have hi : x3.toNatClampNeg = x3.toInt.toNat := rfl
    unfold upd
    by_cases cj : j = x3.toInt
    · rw [if_pos (by rw [hi]; omega), cj, show (64 * x2.toInt + x3.toInt).toNat = ic0 by omega]
      exact e5.symm
    · rw [if_neg (by rw [hi]; omega)]
      exact kk j j0 (by omega) j2)
  exact ⟨p, fun _ => rfl, ⟨(fun q h => by cases h), fun q h => (by cases h), (fun f h => by cases h), (aAllc ⟨_, rfl, rF_p (r := 3987) (by decide) (by decide) q0⟩ (fun f h => by cases h))⟩, [], List.mem_cons_self, fun f h => (by cases h)⟩
theorem rw_rzMn {K : Nat → Nat} {n : Nat} {JX : (Nat → jcell) → Prop} : aGho (rG K n) fa_T K n JX ag_rzMn := by
  refine aGho_of ⟨rfl, rfl⟩ ?_
  intro p σ ρ hH hX hA hM0
  have hG := aAG_of hA.1 (fun i e v he hv => (hA.2 i e v he hv).1)
  clear hA
  obtain ⟨v0, v1, v2, v3, rfl, g0, g1, g2, g3⟩ := rA_4 hG
  clear hG
  obtain ⟨x0, rfl, b0, d0⟩ := rG_ref (by decide) g0
  obtain ⟨x1, rfl, b1, d1⟩ := aG_int g1
  dsimp only at b1 d1
  obtain ⟨x2, rfl, b2, d2⟩ := aG_int g2
  dsimp only at b2 d2
  obtain ⟨x3, rfl, b3, d3⟩ := aG_int g3
  dsimp only at b3 d3
  obtain ⟨m1, m2, m3, m4⟩ := hM0
  obtain ⟨T, hT⟩ := rTe_ex hH b0 d0
  have l0 : 0 ≤ (1 * x3.toInt + (-1 * x2.toInt + 0)) + -1 := by
    obtain ⟨z, e6, e7⟩ := m3 ([(3, 1), (2, -1)], -1) (List.mem_of_getElem? (i := 0) rfl)
    obtain rfl : (1 * x3.toInt + (-1 * x2.toInt + 0)) = z := Option.some.inj (show some (1 * x3.toInt + (-1 * x2.toInt + 0)) = some z from e6)
    exact e7
  have l1 : 0 ≤ (-1 * x3.toInt + (1 * x2.toInt + 0)) + 1 := by
    obtain ⟨z, e6, e7⟩ := m3 ([(3, -1), (2, 1)], 1) (List.mem_of_getElem? (i := 1) rfl)
    obtain rfl : (-1 * x3.toInt + (1 * x2.toInt + 0)) = z := Option.some.inj (show some (-1 * x3.toInt + (1 * x2.toInt + 0)) = some z from e6)
    exact e7
  have f0 : rB2 K n p 249 [rR x0, rI x1, rI x2] σ := by
    obtain ⟨w, e6, e7⟩ := m4 (3987, [0, 1, 2]) (List.mem_of_getElem? (i := 0) rfl)
    obtain rfl : [rR x0, rI x1, rI x2] = w := Option.some.inj (show some [rR x0, rI x1, rI x2] = some w from e6)
    exact (rF_b (r := 3987) (by decide) rfl).mp e7
  have f0 := ro2_249.mp f0
  clear m1 m2 m3 m4
  have q0 : rB2 K n p 248 [rR x0, rI x1, rI x3] σ := ro2_248.mpr (by
    obtain ⟨k0, g5, gm, r5, rm, kk⟩ := f0
    exact ⟨k0, g5, gm, r5, rm, fun j j0 j1 j2 => kk j j0 (by omega) j2⟩)
  exact ⟨p, fun _ => rfl, ⟨(fun q h => by cases h), fun q h => (by cases h), (fun f h => by cases h), (aAllc ⟨_, rfl, (rF_b (r := 3971) (by decide) rfl).mpr q0⟩ (fun f h => by cases h))⟩, [], List.mem_cons_self, fun f h => (by cases h)⟩
theorem rw_rzR0 {K : Nat → Nat} {n : Nat} {JX : (Nat → jcell) → Prop} : aGho (rG K n) fa_T K n JX ag_rzR0 := by
  refine aGho_of ⟨rfl, rfl⟩ ?_
  intro p σ ρ hH hX hA hM0
  have hG := aAG_of hA.1 (fun i e v he hv => (hA.2 i e v he hv).1)
  clear hA
  obtain ⟨v0, v1, v2, v3, v4, rfl, g0, g1, g2, g3, g4⟩ := rA_5 hG
  clear hG
  obtain ⟨x0, rfl, b0, d0⟩ := rG_ref (by decide) g0
  obtain ⟨x1, rfl, b1, d1⟩ := rG_ref (by decide) g1
  obtain ⟨x2, rfl, b2, d2⟩ := aG_int g2
  dsimp only at b2 d2
  obtain ⟨x3, rfl, b3, d3⟩ := aG_int g3
  dsimp only at b3 d3
  obtain ⟨x4, rfl, b4, d4⟩ := aG_int g4
  dsimp only at b4 d4
  obtain ⟨m1, m2, m3, m4⟩ := hM0
  obtain ⟨T, hT⟩ := rTe_ex hH b0 d0
  obtain ⟨a0, c0, fs0, w0, e1, s0, t0, e4⟩ := m1 (0, 17, 1) (List.mem_of_getElem? (i := 0) rfl)
  obtain rfl : x0 = a0 := Sum.inl.inj (Option.some.inj (Sum.inr.inj (Sum.inr.inj (Option.some.inj (show some (rR x0) = some _ from e1)))))
  obtain rfl : rR x1 = w0 := Option.some.inj (show some (rR x1) = some w0 from e4)
  clear e1 e4
  obtain ⟨a, mc0, ty0, gc0, ic0, e1, sc0, jc0, e4, e5⟩ := m2 (1, ([(2, 5)], 0), 4) (List.mem_of_getElem? (i := 0) rfl)
  obtain rfl : x1 = a := Sum.inl.inj (Option.some.inj (Sum.inr.inj (Sum.inr.inj (Option.some.inj (show some (rR x1) = some _ from e1)))))
  obtain ⟨gc0, rfl⟩ : ∃ g, gc0 = .inl g := by
    rcases gc0 with g | g
    · exact ⟨g, rfl⟩
    · exact absurd (show some (rI x4) = some (.inr (.inl (g ic0))) from e5) (fun h => by cases h)
  have sc0 : σ x1 = .inl (ty0, mc0, .inl gc0) := sc0
  have ec0 : x4 = gc0 ic0 := Sum.inl.inj (Option.some.inj (show some (rI x4) = some _ from e5))
  have kc0 : (ic0 : Int) = (5 * x2.toInt + 0) + 0 := by
    obtain ⟨z, e6, e7⟩ := e4
    obtain rfl : (5 * x2.toInt + 0) = z := Option.some.inj (show some (5 * x2.toInt + 0) = some z from e6)
    exact e7
  clear e1 e4 e5
  have f0 : rB2 K n p 241 [rR x0, rI x2, rI x3] σ := by
    obtain ⟨w, e6, e7⟩ := m4 (3859, [0, 2, 3]) (List.mem_of_getElem? (i := 0) rfl)
    obtain rfl : [rR x0, rI x2, rI x3] = w := Option.some.inj (show some [rR x0, rI x2, rI x3] = some w from e6)
    exact (rF_b (r := 3859) (by decide) rfl).mp e7
  obtain ⟨C, y, hY, f0⟩ := ro2_241.mp f0
  clear m1 m2 m3 m4
  obtain ⟨g5, g6, r5, r6, eq, ez⟩ := hY.1.2.2.2.2
  have e6 := rRo_c (i := ic0) r6 s0 t0 sc0 ec0
  have hv : y.2.2.2.2.1.2.1 = x4.toInt := by
    rw [eq]
    show (g6 (5 * x2.toInt).toNat).toInt = x4.toInt
    rw [show (5 * x2.toInt).toNat = ic0 by omega]
    exact e6
  have hg := hY.2.2.1.2.2.2.2
  have hb : 0 ≤ x4.toInt ∧ x4.toInt ≤ 1 := by rw [← hv]; exact ⟨hg.1.1, hg.1.2.1⟩
  have r0 : 0 ≤ (1 * x4.toInt + 0) + 0 := by
    omega
  have r1 : 0 ≤ (-1 * x4.toInt + 0) + 1 := by
    omega
  have q0 : rB2 K n p 253 [rR x0, rI x2, rI x4] σ := ro2_253.mpr ⟨C, y, hY, by
    exact hv⟩
  exact ⟨p, fun _ => rfl, ⟨(fun q h => by cases h), fun q h => (by cases h), (aAllc ⟨_, rfl, r0⟩ (aAllc ⟨_, rfl, r1⟩ (fun f h => by cases h))), (aAllc ⟨_, rfl, (rF_b (r := 4051) (by decide) rfl).mpr q0⟩ (fun f h => by cases h))⟩, [], List.mem_cons_self, fun f h => (by cases h)⟩
theorem rw_rzR1 {K : Nat → Nat} {n : Nat} {JX : (Nat → jcell) → Prop} : aGho (rG K n) fa_T K n JX ag_rzR1 := by
  refine aGho_of ⟨rfl, rfl⟩ ?_
  intro p σ ρ hH hX hA hM0
  have hG := aAG_of hA.1 (fun i e v he hv => (hA.2 i e v he hv).1)
  clear hA
  obtain ⟨v0, v1, v2, v3, v4, rfl, g0, g1, g2, g3, g4⟩ := rA_5 hG
  clear hG
  obtain ⟨x0, rfl, b0, d0⟩ := rG_ref (by decide) g0
  obtain ⟨x1, rfl, b1, d1⟩ := rG_ref (by decide) g1
  obtain ⟨x2, rfl, b2, d2⟩ := aG_int g2
  dsimp only at b2 d2
  obtain ⟨x3, rfl, b3, d3⟩ := aG_int g3
  dsimp only at b3 d3
  obtain ⟨x4, rfl, b4, d4⟩ := aG_int g4
  dsimp only at b4 d4
  obtain ⟨m1, m2, m3, m4⟩ := hM0
  obtain ⟨T, hT⟩ := rTe_ex hH b0 d0
  obtain ⟨a0, c0, fs0, w0, e1, s0, t0, e4⟩ := m1 (0, 17, 1) (List.mem_of_getElem? (i := 0) rfl)
  obtain rfl : x0 = a0 := Sum.inl.inj (Option.some.inj (Sum.inr.inj (Sum.inr.inj (Option.some.inj (show some (rR x0) = some _ from e1)))))
  obtain rfl : rR x1 = w0 := Option.some.inj (show some (rR x1) = some w0 from e4)
  clear e1 e4
  obtain ⟨a, mc0, ty0, gc0, ic0, e1, sc0, jc0, e4, e5⟩ := m2 (1, ([(2, 5)], 1), 4) (List.mem_of_getElem? (i := 0) rfl)
  obtain rfl : x1 = a := Sum.inl.inj (Option.some.inj (Sum.inr.inj (Sum.inr.inj (Option.some.inj (show some (rR x1) = some _ from e1)))))
  obtain ⟨gc0, rfl⟩ : ∃ g, gc0 = .inl g := by
    rcases gc0 with g | g
    · exact ⟨g, rfl⟩
    · exact absurd (show some (rI x4) = some (.inr (.inl (g ic0))) from e5) (fun h => by cases h)
  have sc0 : σ x1 = .inl (ty0, mc0, .inl gc0) := sc0
  have ec0 : x4 = gc0 ic0 := Sum.inl.inj (Option.some.inj (show some (rI x4) = some _ from e5))
  have kc0 : (ic0 : Int) = (5 * x2.toInt + 0) + 1 := by
    obtain ⟨z, e6, e7⟩ := e4
    obtain rfl : (5 * x2.toInt + 0) = z := Option.some.inj (show some (5 * x2.toInt + 0) = some z from e6)
    exact e7
  clear e1 e4 e5
  have f0 : rB2 K n p 241 [rR x0, rI x2, rI x3] σ := by
    obtain ⟨w, e6, e7⟩ := m4 (3859, [0, 2, 3]) (List.mem_of_getElem? (i := 0) rfl)
    obtain rfl : [rR x0, rI x2, rI x3] = w := Option.some.inj (show some [rR x0, rI x2, rI x3] = some w from e6)
    exact (rF_b (r := 3859) (by decide) rfl).mp e7
  obtain ⟨C, y, hY, f0⟩ := ro2_241.mp f0
  clear m1 m2 m3 m4
  obtain ⟨g5, g6, r5, r6, eq, ez⟩ := hY.1.2.2.2.2
  have e6 := rRo_c (i := ic0) r6 s0 t0 sc0 ec0
  have hv : y.2.2.2.2.1.2.2.1 = x4.toInt := by
    rw [eq]
    show (g6 (5 * x2.toInt + 1).toNat).toInt = x4.toInt
    rw [show (5 * x2.toInt + 1).toNat = ic0 by omega]
    exact e6
  have hg := hY.2.2.1.2.2.2.2
  have hb : 0 ≤ x4.toInt ∧ x4.toInt ≤ 15 := by rw [← hv]; exact hg.2
  have r0 : 0 ≤ (1 * x4.toInt + 0) + 0 := by
    omega
  have r1 : 0 ≤ (-1 * x4.toInt + 0) + 15 := by
    omega
  have q0 : rB2 K n p 254 [rR x0, rI x2, rI x4] σ := ro2_254.mpr ⟨C, y, hY, by
    exact hv⟩
  exact ⟨p, fun _ => rfl, ⟨(fun q h => by cases h), fun q h => (by cases h), (aAllc ⟨_, rfl, r0⟩ (aAllc ⟨_, rfl, r1⟩ (fun f h => by cases h))), (aAllc ⟨_, rfl, (rF_b (r := 4067) (by decide) rfl).mpr q0⟩ (fun f h => by cases h))⟩, [], List.mem_cons_self, fun f h => (by cases h)⟩
theorem rw_rzR2 {K : Nat → Nat} {n : Nat} {JX : (Nat → jcell) → Prop} : aGho (rG K n) fa_T K n JX ag_rzR2 := by
  refine aGho_of ⟨rfl, rfl⟩ ?_
  intro p σ ρ hH hX hA hM0
  have hG := aAG_of hA.1 (fun i e v he hv => (hA.2 i e v he hv).1)
  clear hA
  obtain ⟨v0, v1, v2, v3, v4, rfl, g0, g1, g2, g3, g4⟩ := rA_5 hG
  clear hG
  obtain ⟨x0, rfl, b0, d0⟩ := rG_ref (by decide) g0
  obtain ⟨x1, rfl, b1, d1⟩ := rG_ref (by decide) g1
  obtain ⟨x2, rfl, b2, d2⟩ := aG_int g2
  dsimp only at b2 d2
  obtain ⟨x3, rfl, b3, d3⟩ := aG_int g3
  dsimp only at b3 d3
  obtain ⟨x4, rfl, b4, d4⟩ := aG_int g4
  dsimp only at b4 d4
  obtain ⟨m1, m2, m3, m4⟩ := hM0
  obtain ⟨T, hT⟩ := rTe_ex hH b0 d0
  obtain ⟨a0, c0, fs0, w0, e1, s0, t0, e4⟩ := m1 (0, 17, 1) (List.mem_of_getElem? (i := 0) rfl)
  obtain rfl : x0 = a0 := Sum.inl.inj (Option.some.inj (Sum.inr.inj (Sum.inr.inj (Option.some.inj (show some (rR x0) = some _ from e1)))))
  obtain rfl : rR x1 = w0 := Option.some.inj (show some (rR x1) = some w0 from e4)
  clear e1 e4
  obtain ⟨a, mc0, ty0, gc0, ic0, e1, sc0, jc0, e4, e5⟩ := m2 (1, ([(2, 5)], 2), 4) (List.mem_of_getElem? (i := 0) rfl)
  obtain rfl : x1 = a := Sum.inl.inj (Option.some.inj (Sum.inr.inj (Sum.inr.inj (Option.some.inj (show some (rR x1) = some _ from e1)))))
  obtain ⟨gc0, rfl⟩ : ∃ g, gc0 = .inl g := by
    rcases gc0 with g | g
    · exact ⟨g, rfl⟩
    · exact absurd (show some (rI x4) = some (.inr (.inl (g ic0))) from e5) (fun h => by cases h)
  have sc0 : σ x1 = .inl (ty0, mc0, .inl gc0) := sc0
  have ec0 : x4 = gc0 ic0 := Sum.inl.inj (Option.some.inj (show some (rI x4) = some _ from e5))
  have kc0 : (ic0 : Int) = (5 * x2.toInt + 0) + 2 := by
    obtain ⟨z, e6, e7⟩ := e4
    obtain rfl : (5 * x2.toInt + 0) = z := Option.some.inj (show some (5 * x2.toInt + 0) = some z from e6)
    exact e7
  clear e1 e4 e5
  have f0 : rB2 K n p 241 [rR x0, rI x2, rI x3] σ := by
    obtain ⟨w, e6, e7⟩ := m4 (3859, [0, 2, 3]) (List.mem_of_getElem? (i := 0) rfl)
    obtain rfl : [rR x0, rI x2, rI x3] = w := Option.some.inj (show some [rR x0, rI x2, rI x3] = some w from e6)
    exact (rF_b (r := 3859) (by decide) rfl).mp e7
  obtain ⟨C, y, hY, f0⟩ := ro2_241.mp f0
  clear m1 m2 m3 m4
  obtain ⟨g5, g6, r5, r6, eq, ez⟩ := hY.1.2.2.2.2
  have e6 := rRo_c (i := ic0) r6 s0 t0 sc0 ec0
  have hv : y.2.2.2.2.1.2.2.2 = x4.toInt := by
    rw [eq]
    show (g6 (5 * x2.toInt + 2).toNat).toInt = x4.toInt
    rw [show (5 * x2.toInt + 2).toNat = ic0 by omega]
    exact e6
  have hg := hY.2.2.1.2.2.2.2
  have hb : -1 ≤ x4.toInt ∧ x4.toInt ≤ 63 := by
    rcases hg.1.2.2.2.2.1 with h9 | ⟨h9, h8, -⟩
    · rw [hv] at h9; omega
    · rw [hv] at h9 h8; omega
  have r0 : 0 ≤ (1 * x4.toInt + 0) + 1 := by
    omega
  have r1 : 0 ≤ (-1 * x4.toInt + 0) + 63 := by
    omega
  have q0 : rB2 K n p 255 [rR x0, rI x2, rI x4] σ := ro2_255.mpr ⟨C, y, hY, by
    exact hv⟩
  exact ⟨p, fun _ => rfl, ⟨(fun q h => by cases h), fun q h => (by cases h), (aAllc ⟨_, rfl, r0⟩ (aAllc ⟨_, rfl, r1⟩ (fun f h => by cases h))), (aAllc ⟨_, rfl, (rF_b (r := 4083) (by decide) rfl).mpr q0⟩ (fun f h => by cases h))⟩, [], List.mem_cons_self, fun f h => (by cases h)⟩
theorem rw_rzRn {K : Nat → Nat} {n : Nat} {JX : (Nat → jcell) → Prop} : aGho (rG K n) fa_T K n JX ag_rzRn := by
  refine aGho_of ⟨rfl, rfl⟩ ?_
  intro p σ ρ hH hX hA hM0
  have hG := aAG_of hA.1 (fun i e v he hv => (hA.2 i e v he hv).1)
  clear hA
  obtain ⟨v0, v1, v2, v3, v4, rfl, g0, g1, g2, g3, g4⟩ := rA_5 hG
  clear hG
  obtain ⟨x0, rfl, b0, d0⟩ := rG_ref (by decide) g0
  obtain ⟨x1, rfl, b1, d1⟩ := rG_ref (by decide) g1
  obtain ⟨x2, rfl, b2, d2⟩ := aG_int g2
  dsimp only at b2 d2
  obtain ⟨x3, rfl, b3, d3⟩ := aG_int g3
  dsimp only at b3 d3
  obtain ⟨x4, rfl, b4, d4⟩ := aG_int g4
  dsimp only at b4 d4
  obtain ⟨m1, m2, m3, m4⟩ := hM0
  obtain ⟨T, hT⟩ := rTe_ex hH b0 d0
  obtain ⟨a0, c0, fs0, w0, e1, s0, t0, e4⟩ := m1 (0, 17, 1) (List.mem_of_getElem? (i := 0) rfl)
  obtain rfl : x0 = a0 := Sum.inl.inj (Option.some.inj (Sum.inr.inj (Sum.inr.inj (Option.some.inj (show some (rR x0) = some _ from e1)))))
  obtain rfl : rR x1 = w0 := Option.some.inj (show some (rR x1) = some w0 from e4)
  clear e1 e4
  obtain ⟨a, mc0, ty0, gc0, ic0, e1, sc0, jc0, e4, e5⟩ := m2 (1, ([(2, 5)], 4), 4) (List.mem_of_getElem? (i := 0) rfl)
  obtain rfl : x1 = a := Sum.inl.inj (Option.some.inj (Sum.inr.inj (Sum.inr.inj (Option.some.inj (show some (rR x1) = some _ from e1)))))
  obtain ⟨gc0, rfl⟩ : ∃ g, gc0 = .inl g := by
    rcases gc0 with g | g
    · exact ⟨g, rfl⟩
    · exact absurd (show some (rI x4) = some (.inr (.inl (g ic0))) from e5) (fun h => by cases h)
  have sc0 : σ x1 = .inl (ty0, mc0, .inl gc0) := sc0
  have ec0 : x4 = gc0 ic0 := Sum.inl.inj (Option.some.inj (show some (rI x4) = some _ from e5))
  have kc0 : (ic0 : Int) = (5 * x2.toInt + 0) + 4 := by
    obtain ⟨z, e6, e7⟩ := e4
    obtain rfl : (5 * x2.toInt + 0) = z := Option.some.inj (show some (5 * x2.toInt + 0) = some z from e6)
    exact e7
  clear e1 e4 e5
  have f0 : rB2 K n p 241 [rR x0, rI x2, rI x3] σ := by
    obtain ⟨w, e6, e7⟩ := m4 (3859, [0, 2, 3]) (List.mem_of_getElem? (i := 0) rfl)
    obtain rfl : [rR x0, rI x2, rI x3] = w := Option.some.inj (show some [rR x0, rI x2, rI x3] = some w from e6)
    exact (rF_b (r := 3859) (by decide) rfl).mp e7
  obtain ⟨C, y, hY, f0⟩ := ro2_241.mp f0
  clear m1 m2 m3 m4
  obtain ⟨g5, g6, r5, r6, eq, ez⟩ := hY.1.2.2.2.2
  have e6 := rRo_c (i := ic0) r6 s0 t0 sc0 ec0
  have hv : y.2.2.2.2.2 = x4.toInt := by
    rw [ez, show (5 * x2.toInt + 4).toNat = ic0 by omega]
    exact e6
  have h1 := hY.2.2.1.2.2.1
  have h2 := hY.2.2.1.2.2.2.1
  rw [hv] at h1 h2
  have r0 : 0 ≤ (1 * x4.toInt + 0) + 0 := by
    omega
  have r1 : 0 ≤ (-1 * x4.toInt + 0) + 999 := by
    omega
  exact ⟨p, fun _ => rfl, ⟨(fun q h => by cases h), fun q h => (by cases h), (aAllc ⟨_, rfl, r0⟩ (aAllc ⟨_, rfl, r1⟩ (fun f h => by cases h))), (fun f h => by cases h)⟩, [], List.mem_cons_self, fun f h => (by cases h)⟩
theorem rw_rzS0 {K : Nat → Nat} {n : Nat} {JX : (Nat → jcell) → Prop} : aGho (rG K n) fa_T K n JX ag_rzS0 := by
  refine aGho_of ⟨rfl, rfl⟩ ?_
  intro p σ ρ hH hX hA hM0
  have hG := aAG_of hA.1 (fun i e v he hv => (hA.2 i e v he hv).1)
  clear hA
  obtain ⟨v0, v1, v2, v3, v4, v5, v6, v7, v8, rfl, g0, g1, g2, g3, g4, g5, g6, g7, g8⟩ := rA_9 hG
  clear hG
  obtain ⟨x0, rfl, b0, d0⟩ := rG_ref (by decide) g0
  obtain ⟨x1, rfl, b1, d1⟩ := aG_int g1
  dsimp only at b1 d1
  obtain ⟨x2, rfl, b2, d2⟩ := aG_int g2
  dsimp only at b2 d2
  obtain ⟨x3, rfl, b3, d3⟩ := aG_int g3
  dsimp only at b3 d3
  obtain ⟨x4, rfl, b4, d4⟩ := aG_int g4
  dsimp only at b4 d4
  obtain ⟨x5, rfl, b5, d5⟩ := aG_int g5
  dsimp only at b5 d5
  obtain ⟨x6, rfl, b6, d6⟩ := aG_int g6
  dsimp only at b6 d6
  obtain ⟨x7, rfl, b7, d7⟩ := aG_int g7
  dsimp only at b7 d7
  obtain ⟨x8, rfl, b8, d8⟩ := aG_int g8
  dsimp only at b8 d8
  obtain ⟨m1, m2, m3, m4⟩ := hM0
  obtain ⟨T, hT⟩ := rTe_ex hH b0 d0
  obtain ⟨a0, c0, fs0, w0, e1, s0, t0, e4⟩ := m1 (0, 25, 6) (List.mem_of_getElem? (i := 0) rfl)
  obtain rfl : x0 = a0 := Sum.inl.inj (Option.some.inj (Sum.inr.inj (Sum.inr.inj (Option.some.inj (show some (rR x0) = some _ from e1)))))
  obtain rfl : rI x6 = w0 := Option.some.inj (show some (rI x6) = some w0 from e4)
  clear e1 e4
  obtain ⟨a1, c1, fs1, w1, e1, s1, t1, e4⟩ := m1 (0, 26, 7) (List.mem_of_getElem? (i := 1) rfl)
  obtain rfl : x0 = a1 := Sum.inl.inj (Option.some.inj (Sum.inr.inj (Sum.inr.inj (Option.some.inj (show some (rR x0) = some _ from e1)))))
  obtain rfl : rI x7 = w1 := Option.some.inj (show some (rI x7) = some w1 from e4)
  clear e1 e4
  obtain ⟨a2, c2, fs2, w2, e1, s2, t2, e4⟩ := m1 (0, 27, 8) (List.mem_of_getElem? (i := 2) rfl)
  obtain rfl : x0 = a2 := Sum.inl.inj (Option.some.inj (Sum.inr.inj (Sum.inr.inj (Option.some.inj (show some (rR x0) = some _ from e1)))))
  obtain rfl : rI x8 = w2 := Option.some.inj (show some (rI x8) = some w2 from e4)
  clear e1 e4
  have l0 : 0 ≤ (1 * x4.toInt + (-1 * x3.toInt + 0)) + 1 := by
    obtain ⟨z, e6, e7⟩ := m3 ([(4, 1), (3, -1)], 1) (List.mem_of_getElem? (i := 0) rfl)
    obtain rfl : (1 * x4.toInt + (-1 * x3.toInt + 0)) = z := Option.some.inj (show some (1 * x4.toInt + (-1 * x3.toInt + 0)) = some z from e6)
    exact e7
  have l1 : 0 ≤ (-1 * x4.toInt + (1 * x3.toInt + 0)) + -1 := by
    obtain ⟨z, e6, e7⟩ := m3 ([(4, -1), (3, 1)], -1) (List.mem_of_getElem? (i := 1) rfl)
    obtain rfl : (-1 * x4.toInt + (1 * x3.toInt + 0)) = z := Option.some.inj (show some (-1 * x4.toInt + (1 * x3.toInt + 0)) = some z from e6)
    exact e7
  have f0 : rB2 K n p 252 [rR x0, rI x1, rI x2, rI x3, rI x3] σ := by
    obtain ⟨w, e6, e7⟩ := m4 (4037, [0, 1, 2, 3, 3]) (List.mem_of_getElem? (i := 0) rfl)
    obtain rfl : [rR x0, rI x1, rI x2, rI x3, rI x3] = w := Option.some.inj (show some [rR x0, rI x1, rI x2, rI x3, rI x3] = some w from e6)
    exact (rF_b (r := 4037) (by decide) rfl).mp e7
  have f0 := ro2_252.mp f0
  have f1 : rB2 K n p 248 [rR x0, rI x1, rI x5] σ := by
    obtain ⟨w, e6, e7⟩ := m4 (3971, [0, 1, 5]) (List.mem_of_getElem? (i := 1) rfl)
    obtain rfl : [rR x0, rI x1, rI x5] = w := Option.some.inj (show some [rR x0, rI x1, rI x5] = some w from e6)
    exact (rF_b (r := 3971) (by decide) rfl).mp e7
  have f1 := ro2_248.mp f1
  have f2 : rB2 K n p 253 [rR x0, rI x1, rI x6] σ := by
    obtain ⟨w, e6, e7⟩ := m4 (4051, [0, 1, 6]) (List.mem_of_getElem? (i := 2) rfl)
    obtain rfl : [rR x0, rI x1, rI x6] = w := Option.some.inj (show some [rR x0, rI x1, rI x6] = some w from e6)
    exact (rF_b (r := 4051) (by decide) rfl).mp e7
  obtain ⟨C, y, hY, f2⟩ := ro2_253.mp f2
  have f3 : rB2 K n p 254 [rR x0, rI x1, rI x7] σ := by
    obtain ⟨w, e6, e7⟩ := m4 (4067, [0, 1, 7]) (List.mem_of_getElem? (i := 3) rfl)
    obtain rfl : [rR x0, rI x1, rI x7] = w := Option.some.inj (show some [rR x0, rI x1, rI x7] = some w from e6)
    exact (rF_b (r := 4067) (by decide) rfl).mp e7
  obtain ⟨C9, y9, h9, f3⟩ := ro2_254.mp f3
  obtain ⟨rfl, rfl⟩ := rTY_u hY h9
  clear h9
  have f4 : rB2 K n p 255 [rR x0, rI x1, rI x8] σ := by
    obtain ⟨w, e6, e7⟩ := m4 (4083, [0, 1, 8]) (List.mem_of_getElem? (i := 4) rfl)
    obtain rfl : [rR x0, rI x1, rI x8] = w := Option.some.inj (show some [rR x0, rI x1, rI x8] = some w from e6)
    exact (rF_b (r := 4083) (by decide) rfl).mp e7
  obtain ⟨C9, y9, h9, f4⟩ := ro2_255.mp f4
  obtain ⟨rfl, rfl⟩ := rTY_u hY h9
  clear h9
  clear m1 m2 m3 m4
  have q0 : rB2 K n p 250 [rR x0, rI x1, rI x2, rI x3, rI x4] σ := ro2_250.mpr (by
    obtain ⟨C9, y9, h9, k1, k2, k3, k4, k5⟩ := f0
    obtain ⟨rfl, rfl⟩ := rTY_u hY h9
    refine ⟨C, y, hY, k1, k2, k3, k4, k5, by omega, by omega, ?_⟩
    rw [show (x4.toInt + 1).toNat = x3.toInt.toNat by omega, k5, rPo_0]
    obtain ⟨k0, g5, gm, r5, rm, kk⟩ := f1
    refine ⟨?_, ⟨x6, ⟨b0, d0, _, _, s0, t0⟩, f2.symm⟩, ⟨x7, ⟨b0, d0, _, _, s1, t1⟩, f3.symm⟩, ⟨x8, ⟨b0, d0, _, _, s2, t2⟩, f4.symm⟩⟩
    obtain ⟨g5', g6, r5', r6, eq, ez⟩ := hY.1.2.2.2.2
    obtain rfl := rRo_u r5 r5'
    rw [eq]
    refine rZ_e rm (fun j hj => ?_) (fun j j0 j1 => ?_)
    · show (if 0 ≤ j ∧ j ≤ 63 then _ else (0 : Int)) = 0
      rw [if_neg hj]
    · show _ = (if 0 ≤ j ∧ j ≤ 63 then (g5 (64 * x1.toInt + j).toNat).toInt else 0)
      rw [if_pos ⟨j0, j1⟩]
      exact kk j j0 (by omega) j1)
  exact ⟨p, fun _ => rfl, ⟨(fun q h => by cases h), fun q h => (by cases h), (fun f h => by cases h), (aAllc ⟨_, rfl, (rF_b (r := 4005) (by decide) rfl).mpr q0⟩ (fun f h => by cases h))⟩, [], List.mem_cons_self, fun f h => (by cases h)⟩
theorem rw_rzPe {K : Nat → Nat} {n : Nat} {JX : (Nat → jcell) → Prop} : aGho (rG K n) fa_T K n JX ag_rzPe := by
  refine aGho_of ⟨rfl, rfl⟩ ?_
  intro p σ ρ hH hX hA hM0
  have hG := aAG_of hA.1 (fun i e v he hv => (hA.2 i e v he hv).1)
  clear hA
  obtain ⟨v0, v1, v2, v3, v4, rfl, g0, g1, g2, g3, g4⟩ := rA_5 hG
  clear hG
  obtain ⟨x0, rfl, b0, d0⟩ := rG_ref (by decide) g0
  obtain ⟨x1, rfl, b1, d1⟩ := aG_int g1
  dsimp only at b1 d1
  obtain ⟨x2, rfl, b2, d2⟩ := aG_int g2
  dsimp only at b2 d2
  obtain ⟨x3, rfl, b3, d3⟩ := aG_int g3
  dsimp only at b3 d3
  obtain ⟨x4, rfl, b4, d4⟩ := aG_int g4
  dsimp only at b4 d4
  obtain ⟨m1, m2, m3, m4⟩ := hM0
  obtain ⟨T, hT⟩ := rTe_ex hH b0 d0
  have f0 : rB2 K n p 246 [rR x0, rI x1, rI x2, rI x3, rI x4] σ := by
    obtain ⟨w, e6, e7⟩ := m4 (3941, [0, 1, 2, 3, 4]) (List.mem_of_getElem? (i := 0) rfl)
    obtain rfl : [rR x0, rI x1, rI x2, rI x3, rI x4] = w := Option.some.inj (show some [rR x0, rI x1, rI x2, rI x3, rI x4] = some w from e6)
    exact (rF_b (r := 3941) (by decide) rfl).mp e7
  have f0 := ro2_246.mp f0
  clear m1 m2 m3 m4
  have q0 : rB2 K n p 252 [rR x0, rI x1, rI x2, rI x3, rI x3] σ := ro2_252.mpr (by
    obtain ⟨C, y, hY, k1, k2, k3, k4, k5, k6, k7⟩ := f0
    exact ⟨C, y, hY, k1, k2, k3, k4, by rw [← k5]; omega⟩)
  exact ⟨p, fun _ => rfl, ⟨(fun q h => by cases h), fun q h => (by cases h), (fun f h => by cases h), (aAllc ⟨_, rfl, (rF_b (r := 4037) (by decide) rfl).mpr q0⟩ (fun f h => by cases h))⟩, [], List.mem_cons_self, fun f h => (by cases h)⟩
theorem rw_rzG {K : Nat → Nat} {n : Nat} {JX : (Nat → jcell) → Prop} : aGho (rG K n) fa_T K n JX ag_rzG := by
  refine aGho_of ⟨rfl, rfl⟩ ?_
  intro p σ ρ hH hX hA hM0
  have hG := aAG_of hA.1 (fun i e v he hv => (hA.2 i e v he hv).1)
  clear hA
  obtain ⟨v0, v1, v2, v3, v4, v5, v6, v7, v8, rfl, g0, g1, g2, g3, g4, g5, g6, g7, g8⟩ := rA_9 hG
  clear hG
  obtain ⟨x0, rfl, b0, d0⟩ := rG_ref (by decide) g0
  obtain ⟨x1, rfl, b1, d1⟩ := aG_int g1
  dsimp only at b1 d1
  obtain ⟨x2, rfl, b2, d2⟩ := aG_int g2
  dsimp only at b2 d2
  obtain ⟨x3, rfl, b3, d3⟩ := aG_int g3
  dsimp only at b3 d3
  obtain ⟨x4, rfl, b4, d4⟩ := aG_int g4
  dsimp only at b4 d4
  obtain ⟨x5, rfl, b5, d5⟩ := aG_int g5
  dsimp only at b5 d5
  obtain ⟨x6, rfl, b6, d6⟩ := aG_int g6
  dsimp only at b6 d6
  obtain ⟨x7, rfl, b7, d7⟩ := rG_ref (by decide) g7
  obtain ⟨x8, rfl, b8, d8⟩ := rG_ref (by decide) g8
  obtain ⟨m1, m2, m3, m4⟩ := hM0
  obtain ⟨T, hT⟩ := rTe_ex hH b0 d0
  obtain ⟨a0, c0, fs0, w0, e1, s0, t0, e4⟩ := m1 (0, 34, 7) (List.mem_of_getElem? (i := 0) rfl)
  obtain rfl : x0 = a0 := Sum.inl.inj (Option.some.inj (Sum.inr.inj (Sum.inr.inj (Option.some.inj (show some (rR x0) = some _ from e1)))))
  obtain rfl : rR x7 = w0 := Option.some.inj (show some (rR x7) = some w0 from e4)
  clear e1 e4
  obtain ⟨a1, c1, fs1, w1, e1, s1, t1, e4⟩ := m1 (0, 9, 8) (List.mem_of_getElem? (i := 1) rfl)
  obtain rfl : x0 = a1 := Sum.inl.inj (Option.some.inj (Sum.inr.inj (Sum.inr.inj (Option.some.inj (show some (rR x0) = some _ from e1)))))
  obtain rfl : rR x8 = w1 := Option.some.inj (show some (rR x8) = some w1 from e4)
  clear e1 e4
  obtain ⟨a, mc0, ty0, gc0, ic0, e1, sc0, jc0, e4, e5⟩ := m2 (7, ([(4, 1)], 0), 5) (List.mem_of_getElem? (i := 0) rfl)
  obtain rfl : x7 = a := Sum.inl.inj (Option.some.inj (Sum.inr.inj (Sum.inr.inj (Option.some.inj (show some (rR x7) = some _ from e1)))))
  obtain ⟨gc0, rfl⟩ : ∃ g, gc0 = .inl g := by
    rcases gc0 with g | g
    · exact ⟨g, rfl⟩
    · exact absurd (show some (rI x5) = some (.inr (.inl (g ic0))) from e5) (fun h => by cases h)
  have sc0 : σ x7 = .inl (ty0, mc0, .inl gc0) := sc0
  have ec0 : x5 = gc0 ic0 := Sum.inl.inj (Option.some.inj (show some (rI x5) = some _ from e5))
  have kc0 : (ic0 : Int) = (1 * x4.toInt + 0) + 0 := by
    obtain ⟨z, e6, e7⟩ := e4
    obtain rfl : (1 * x4.toInt + 0) = z := Option.some.inj (show some (1 * x4.toInt + 0) = some z from e6)
    exact e7
  clear e1 e4 e5
  obtain ⟨a, mc1, ty1, gc1, ic1, e1, sc1, jc1, e4, e5⟩ := m2 (8, ([(1, 301), (5, 1)], 0), 6) (List.mem_of_getElem? (i := 1) rfl)
  obtain rfl : x8 = a := Sum.inl.inj (Option.some.inj (Sum.inr.inj (Sum.inr.inj (Option.some.inj (show some (rR x8) = some _ from e1)))))
  obtain ⟨gc1, rfl⟩ : ∃ g, gc1 = .inl g := by
    rcases gc1 with g | g
    · exact ⟨g, rfl⟩
    · exact absurd (show some (rI x6) = some (.inr (.inl (g ic1))) from e5) (fun h => by cases h)
  have sc1 : σ x8 = .inl (ty1, mc1, .inl gc1) := sc1
  have ec1 : x6 = gc1 ic1 := Sum.inl.inj (Option.some.inj (show some (rI x6) = some _ from e5))
  have kc1 : (ic1 : Int) = (301 * x1.toInt + (1 * x5.toInt + 0)) + 0 := by
    obtain ⟨z, e6, e7⟩ := e4
    obtain rfl : (301 * x1.toInt + (1 * x5.toInt + 0)) = z := Option.some.inj (show some (301 * x1.toInt + (1 * x5.toInt + 0)) = some z from e6)
    exact e7
  clear e1 e4 e5
  have f0 : rB2 K n p 250 [rR x0, rI x1, rI x2, rI x3, rI x4] σ := by
    obtain ⟨w, e6, e7⟩ := m4 (4005, [0, 1, 2, 3, 4]) (List.mem_of_getElem? (i := 0) rfl)
    obtain rfl : [rR x0, rI x1, rI x2, rI x3, rI x4] = w := Option.some.inj (show some [rR x0, rI x1, rI x2, rI x3, rI x4] = some w from e6)
    exact (rF_b (r := 4005) (by decide) rfl).mp e7
  have f0 := ro2_250.mp f0
  clear m1 m2 m3 m4
  obtain ⟨C, y, hY, k1, k2, k3, ⟨g, r, k4⟩, k5, k6, k7, k8⟩ := f0
  have e4 := rRo_c (i := ic0) r s0 t0 sc0 ec0
  obtain ⟨k9, k10⟩ := k4 x4.toInt b4 (by omega)
  rw [show x4.toInt.toNat = ic0 by omega, e4] at k9
  rw [show x4.toInt.toNat = ic0 by omega] at k10
  have hub := rUa_b hY.2.2 k1 k2 (j := ic0) (fun i hi => by have := (k4 i (by omega) (by omega)).2; rwa [show ((i : Nat) : Int).toNat = i by omega] at this)
  rw [← k9] at k10 hub
  have y1 : y.2.1 x5.toInt = x6.toInt := rSc_c hY.1.2.1 s1 t1 sc1 ec1 (by omega)
  have hlg := hY.2.2.2.2.1 x5.toInt k10 hub.2
  rw [y1] at hlg
  have hup : y.1 x5.toInt = rUa y.1 (x4.toInt + 1).toNat x2.toInt := by
    rw [show (x4.toInt + 1).toNat = ic0 + 1 by omega, k9]
    rfl
  have hps := rPo_s hY.2.2 k10 hub.2
  rw [y1, hup] at hps
  rw [hup] at hlg
  have hm := hlg.1.1
  have r0 : 0 ≤ (1 * x6.toInt + 0) + 0 := by
    omega
  have r1 : 0 ≤ (1 * x5.toInt + 0) + -1 := by
    omega
  exact ⟨p, fun _ => rfl, ⟨(fun q h => by cases h), fun q h => (by cases h), (aAllc ⟨_, rfl, r0⟩ (aAllc ⟨_, rfl, r1⟩ (fun f h => by cases h))), (fun f h => by cases h)⟩, [], List.mem_cons_self, fun f h => (by cases h)⟩
theorem rw_rzT1 {K : Nat → Nat} {n : Nat} {JX : (Nat → jcell) → Prop} : aGho (rG K n) fa_T K n JX ag_rzT1 := by
  refine aGho_of ⟨rfl, rfl⟩ ?_
  intro p σ ρ hH hX hA hM0
  have hG := aAG_of hA.1 (fun i e v he hv => (hA.2 i e v he hv).1)
  clear hA
  obtain ⟨v0, v1, v2, v3, v4, v5, v6, v7, v8, rfl, g0, g1, g2, g3, g4, g5, g6, g7, g8⟩ := rA_9 hG
  clear hG
  obtain ⟨x0, rfl, b0, d0⟩ := rG_ref (by decide) g0
  obtain ⟨x1, rfl, b1, d1⟩ := aG_int g1
  dsimp only at b1 d1
  obtain ⟨x2, rfl, b2, d2⟩ := aG_int g2
  dsimp only at b2 d2
  obtain ⟨x3, rfl, b3, d3⟩ := aG_int g3
  dsimp only at b3 d3
  obtain ⟨x4, rfl, b4, d4⟩ := aG_int g4
  dsimp only at b4 d4
  obtain ⟨x5, rfl, b5, d5⟩ := aG_int g5
  dsimp only at b5 d5
  obtain ⟨x6, rfl, b6, d6⟩ := aG_int g6
  dsimp only at b6 d6
  obtain ⟨x7, rfl, b7, d7⟩ := rG_ref (by decide) g7
  obtain ⟨x8, rfl, b8, d8⟩ := rG_ref (by decide) g8
  obtain ⟨m1, m2, m3, m4⟩ := hM0
  obtain ⟨T, hT⟩ := rTe_ex hH b0 d0
  obtain ⟨a0, c0, fs0, w0, e1, s0, t0, e4⟩ := m1 (0, 34, 7) (List.mem_of_getElem? (i := 0) rfl)
  obtain rfl : x0 = a0 := Sum.inl.inj (Option.some.inj (Sum.inr.inj (Sum.inr.inj (Option.some.inj (show some (rR x0) = some _ from e1)))))
  obtain rfl : rR x7 = w0 := Option.some.inj (show some (rR x7) = some w0 from e4)
  clear e1 e4
  obtain ⟨a1, c1, fs1, w1, e1, s1, t1, e4⟩ := m1 (0, 9, 8) (List.mem_of_getElem? (i := 1) rfl)
  obtain rfl : x0 = a1 := Sum.inl.inj (Option.some.inj (Sum.inr.inj (Sum.inr.inj (Option.some.inj (show some (rR x0) = some _ from e1)))))
  obtain rfl : rR x8 = w1 := Option.some.inj (show some (rR x8) = some w1 from e4)
  clear e1 e4
  obtain ⟨a, mc0, ty0, gc0, ic0, e1, sc0, jc0, e4, e5⟩ := m2 (7, ([(4, 1)], 0), 5) (List.mem_of_getElem? (i := 0) rfl)
  obtain rfl : x7 = a := Sum.inl.inj (Option.some.inj (Sum.inr.inj (Sum.inr.inj (Option.some.inj (show some (rR x7) = some _ from e1)))))
  obtain ⟨gc0, rfl⟩ : ∃ g, gc0 = .inl g := by
    rcases gc0 with g | g
    · exact ⟨g, rfl⟩
    · exact absurd (show some (rI x5) = some (.inr (.inl (g ic0))) from e5) (fun h => by cases h)
  have sc0 : σ x7 = .inl (ty0, mc0, .inl gc0) := sc0
  have ec0 : x5 = gc0 ic0 := Sum.inl.inj (Option.some.inj (show some (rI x5) = some _ from e5))
  have kc0 : (ic0 : Int) = (1 * x4.toInt + 0) + 0 := by
    obtain ⟨z, e6, e7⟩ := e4
    obtain rfl : (1 * x4.toInt + 0) = z := Option.some.inj (show some (1 * x4.toInt + 0) = some z from e6)
    exact e7
  clear e1 e4 e5
  obtain ⟨a, mc1, ty1, gc1, ic1, e1, sc1, jc1, e4, e5⟩ := m2 (8, ([(1, 301), (5, 1)], 0), 6) (List.mem_of_getElem? (i := 1) rfl)
  obtain rfl : x8 = a := Sum.inl.inj (Option.some.inj (Sum.inr.inj (Sum.inr.inj (Option.some.inj (show some (rR x8) = some _ from e1)))))
  obtain ⟨gc1, rfl⟩ : ∃ g, gc1 = .inl g := by
    rcases gc1 with g | g
    · exact ⟨g, rfl⟩
    · exact absurd (show some (rI x6) = some (.inr (.inl (g ic1))) from e5) (fun h => by cases h)
  have sc1 : σ x8 = .inl (ty1, mc1, .inl gc1) := sc1
  have ec1 : x6 = gc1 ic1 := Sum.inl.inj (Option.some.inj (show some (rI x6) = some _ from e5))
  have kc1 : (ic1 : Int) = (301 * x1.toInt + (1 * x5.toInt + 0)) + 0 := by
    obtain ⟨z, e6, e7⟩ := e4
    obtain rfl : (301 * x1.toInt + (1 * x5.toInt + 0)) = z := Option.some.inj (show some (301 * x1.toInt + (1 * x5.toInt + 0)) = some z from e6)
    exact e7
  clear e1 e4 e5
  have f0 : rB2 K n p 250 [rR x0, rI x1, rI x2, rI x3, rI x4] σ := by
    obtain ⟨w, e6, e7⟩ := m4 (4005, [0, 1, 2, 3, 4]) (List.mem_of_getElem? (i := 0) rfl)
    obtain rfl : [rR x0, rI x1, rI x2, rI x3, rI x4] = w := Option.some.inj (show some [rR x0, rI x1, rI x2, rI x3, rI x4] = some w from e6)
    exact (rF_b (r := 4005) (by decide) rfl).mp e7
  have f0 := ro2_250.mp f0
  clear m1 m2 m3 m4
  obtain ⟨C, y, hY, k1, k2, k3, ⟨g, r, k4⟩, k5, k6, k7, k8⟩ := f0
  have e4 := rRo_c (i := ic0) r s0 t0 sc0 ec0
  obtain ⟨k9, k10⟩ := k4 x4.toInt b4 (by omega)
  rw [show x4.toInt.toNat = ic0 by omega, e4] at k9
  rw [show x4.toInt.toNat = ic0 by omega] at k10
  have hub := rUa_b hY.2.2 k1 k2 (j := ic0) (fun i hi => by have := (k4 i (by omega) (by omega)).2; rwa [show ((i : Nat) : Int).toNat = i by omega] at this)
  rw [← k9] at k10 hub
  have y1 : y.2.1 x5.toInt = x6.toInt := rSc_c hY.1.2.1 s1 t1 sc1 ec1 (by omega)
  have hlg := hY.2.2.2.2.1 x5.toInt k10 hub.2
  rw [y1] at hlg
  have hup : y.1 x5.toInt = rUa y.1 (x4.toInt + 1).toNat x2.toInt := by
    rw [show (x4.toInt + 1).toNat = ic0 + 1 by omega, k9]
    rfl
  have hps := rPo_s hY.2.2 k10 hub.2
  rw [y1, hup] at hps
  rw [hup] at hlg
  have q0 : rB2 K n ((rPo y (rUa y.1 (x4.toInt + 1).toNat x2.toInt), none) : rP) 400 [rR x0] σ := ro2_400.mpr (by
    exact ⟨rfl, k8⟩)
  have q1 : rB2 K n ((rPo y (rUa y.1 (x4.toInt + 1).toNat x2.toInt), none) : rP) 24 [] σ := ro2_24.mpr (by
    exact rPo_g hY.2.2 (by rw [← hup]; exact (hY.2.2.2.1 _ k10 hub.2).1) (by have := hY.2.2.2.1 _ k10 hub.2; rw [← hup]; omega))
  have q2 : rB2 K n ((rPo y (rUa y.1 (x4.toInt + 1).toNat x2.toInt), none) : rP) 25 [rI x6] σ := ro2_25.mpr (by
    exact hlg.1)
  have q3 : rB2 K n (rSh rS1 ((rPo y (rUa y.1 (x4.toInt + 1).toNat x2.toInt), none) : rP) [rR x0, rI x6]) 24 [] σ := ro2_24.mpr (by
    rw [rSh_mk rfl]
    show rGd (rMk (rPo y (rUa y.1 (x4.toInt + 1).toNat x2.toInt)) x6.toInt)
    rw [← hps]
    exact hlg.2)
  have q4 : rB2 K n ((rPo y (rUa y.1 (x4.toInt + 1).toNat x2.toInt), none) : rP) 449 [rR x0, rI x1, rI x2, rI x3, rI x4] σ := ro2_449_5.mpr (by
    exact ⟨rfl, C, y, hY, k1, k2, k3, ⟨g, r, k4⟩, k5, b4, k7, rfl⟩)
  exact ⟨((rPo y (rUa y.1 (x4.toInt + 1).toNat x2.toInt), none) : rP), fun h => (by cases h), ⟨(fun q h => by cases h), fun q h => (by cases h), (fun f h => by cases h), (aAllc ⟨_, rfl, (rF_b (r := 6401) (by decide) rfl).mpr q0⟩ (aAllc ⟨_, rfl, (rF_b (r := 384) (by decide) rfl).mpr q1⟩ (aAllc ⟨_, rfl, (rF_b (r := 401) (by decide) rfl).mpr q2⟩ (aAllc ⟨_, rfl, (rF_g (r := 384) (by decide)).mpr q3⟩ (aAllc ⟨_, rfl, (rF_b (r := 7189) (by decide) rfl).mpr q4⟩ (fun f h => by cases h))))))⟩, [], List.mem_cons_self, fun f h => (by cases h)⟩
theorem rw_rzT2 {K : Nat → Nat} {n : Nat} {JX : (Nat → jcell) → Prop} : aGho (rG K n) fa_T K n JX ag_rzT2 := by
  refine aGho_of ⟨rfl, rfl⟩ ?_
  intro p σ ρ hH hX hA hM0
  have hG := aAG_of hA.1 (fun i e v he hv => (hA.2 i e v he hv).1)
  clear hA
  obtain ⟨v0, v1, v2, v3, v4, v5, v6, v7, v8, rfl, g0, g1, g2, g3, g4, g5, g6, g7, g8⟩ := rA_9 hG
  clear hG
  obtain ⟨x0, rfl, b0, d0⟩ := rG_ref (by decide) g0
  obtain ⟨x1, rfl, b1, d1⟩ := aG_int g1
  dsimp only at b1 d1
  obtain ⟨x2, rfl, b2, d2⟩ := aG_int g2
  dsimp only at b2 d2
  obtain ⟨x3, rfl, b3, d3⟩ := aG_int g3
  dsimp only at b3 d3
  obtain ⟨x4, rfl, b4, d4⟩ := aG_int g4
  dsimp only at b4 d4
  obtain ⟨x5, rfl, b5, d5⟩ := aG_int g5
  dsimp only at b5 d5
  obtain ⟨x6, rfl, b6, d6⟩ := aG_int g6
  dsimp only at b6 d6
  obtain ⟨x7, rfl, b7, d7⟩ := rG_ref (by decide) g7
  obtain ⟨x8, rfl, b8, d8⟩ := rG_ref (by decide) g8
  obtain ⟨m1, m2, m3, m4⟩ := hM0
  obtain ⟨T, hT⟩ := rTe_ex hH b0 d0
  obtain ⟨a0, c0, fs0, w0, e1, s0, t0, e4⟩ := m1 (0, 34, 7) (List.mem_of_getElem? (i := 0) rfl)
  obtain rfl : x0 = a0 := Sum.inl.inj (Option.some.inj (Sum.inr.inj (Sum.inr.inj (Option.some.inj (show some (rR x0) = some _ from e1)))))
  obtain rfl : rR x7 = w0 := Option.some.inj (show some (rR x7) = some w0 from e4)
  clear e1 e4
  obtain ⟨a1, c1, fs1, w1, e1, s1, t1, e4⟩ := m1 (0, 9, 8) (List.mem_of_getElem? (i := 1) rfl)
  obtain rfl : x0 = a1 := Sum.inl.inj (Option.some.inj (Sum.inr.inj (Sum.inr.inj (Option.some.inj (show some (rR x0) = some _ from e1)))))
  obtain rfl : rR x8 = w1 := Option.some.inj (show some (rR x8) = some w1 from e4)
  clear e1 e4
  obtain ⟨a, mc0, ty0, gc0, ic0, e1, sc0, jc0, e4, e5⟩ := m2 (7, ([(4, 1)], 0), 5) (List.mem_of_getElem? (i := 0) rfl)
  obtain rfl : x7 = a := Sum.inl.inj (Option.some.inj (Sum.inr.inj (Sum.inr.inj (Option.some.inj (show some (rR x7) = some _ from e1)))))
  obtain ⟨gc0, rfl⟩ : ∃ g, gc0 = .inl g := by
    rcases gc0 with g | g
    · exact ⟨g, rfl⟩
    · exact absurd (show some (rI x5) = some (.inr (.inl (g ic0))) from e5) (fun h => by cases h)
  have sc0 : σ x7 = .inl (ty0, mc0, .inl gc0) := sc0
  have ec0 : x5 = gc0 ic0 := Sum.inl.inj (Option.some.inj (show some (rI x5) = some _ from e5))
  have kc0 : (ic0 : Int) = (1 * x4.toInt + 0) + 0 := by
    obtain ⟨z, e6, e7⟩ := e4
    obtain rfl : (1 * x4.toInt + 0) = z := Option.some.inj (show some (1 * x4.toInt + 0) = some z from e6)
    exact e7
  clear e1 e4 e5
  obtain ⟨a, mc1, ty1, gc1, ic1, e1, sc1, jc1, e4, e5⟩ := m2 (8, ([(1, 301), (5, 1)], 0), 6) (List.mem_of_getElem? (i := 1) rfl)
  obtain rfl : x8 = a := Sum.inl.inj (Option.some.inj (Sum.inr.inj (Sum.inr.inj (Option.some.inj (show some (rR x8) = some _ from e1)))))
  obtain ⟨gc1, rfl⟩ : ∃ g, gc1 = .inl g := by
    rcases gc1 with g | g
    · exact ⟨g, rfl⟩
    · exact absurd (show some (rI x6) = some (.inr (.inl (g ic1))) from e5) (fun h => by cases h)
  have sc1 : σ x8 = .inl (ty1, mc1, .inl gc1) := sc1
  have ec1 : x6 = gc1 ic1 := Sum.inl.inj (Option.some.inj (show some (rI x6) = some _ from e5))
  have kc1 : (ic1 : Int) = (301 * x1.toInt + (1 * x5.toInt + 0)) + 0 := by
    obtain ⟨z, e6, e7⟩ := e4
    obtain rfl : (301 * x1.toInt + (1 * x5.toInt + 0)) = z := Option.some.inj (show some (301 * x1.toInt + (1 * x5.toInt + 0)) = some z from e6)
    exact e7
  clear e1 e4 e5
  have f0 : rB2 K n p 411 [rR x0, rI x6] σ := by
    obtain ⟨w, e6, e7⟩ := m4 (6578, [0, 6]) (List.mem_of_getElem? (i := 0) rfl)
    obtain rfl : [rR x0, rI x6] = w := Option.some.inj (show some [rR x0, rI x6] = some w from e6)
    exact (rF_b (r := 6578) (by decide) rfl).mp e7
  have f0 := ro2_411.mp f0
  have f1 : rB2 K n p 449 [rR x0, rI x1, rI x2, rI x3, rI x4] σ := by
    obtain ⟨w, e6, e7⟩ := m4 (7189, [0, 1, 2, 3, 4]) (List.mem_of_getElem? (i := 1) rfl)
    obtain rfl : [rR x0, rI x1, rI x2, rI x3, rI x4] = w := Option.some.inj (show some [rR x0, rI x1, rI x2, rI x3, rI x4] = some w from e6)
    exact (rF_b (r := 7189) (by decide) rfl).mp e7
  have f1 := ro2_449_5.mp f1
  have f2 : rB2 K n p 24 [] σ := by
    obtain ⟨w, e6, e7⟩ := m4 (384, []) (List.mem_of_getElem? (i := 2) rfl)
    obtain rfl : [] = w := Option.some.inj (show some [] = some w from e6)
    exact (rF_b (r := 384) (by decide) rfl).mp e7
  have f2 := ro2_24.mp f2
  have f3 : rB2 K n p 25 [rI x6] σ := by
    obtain ⟨w, e6, e7⟩ := m4 (401, [6]) (List.mem_of_getElem? (i := 3) rfl)
    obtain rfl : [rI x6] = w := Option.some.inj (show some [rI x6] = some w from e6)
    exact (rF_b (r := 401) (by decide) rfl).mp e7
  have f3 := ro2_25.mp f3
  clear m1 m2 m3 m4
  obtain ⟨hp, C, y, hY, k1, k2, k3, ⟨g, r, k4⟩, k5, k6, k7, k8⟩ := f1
  have e4 := rRo_c (i := ic0) r s0 t0 sc0 ec0
  obtain ⟨k9, k10⟩ := k4 x4.toInt b4 (by omega)
  rw [show x4.toInt.toNat = ic0 by omega, e4] at k9
  rw [show x4.toInt.toNat = ic0 by omega] at k10
  have hub := rUa_b hY.2.2 k1 k2 (j := ic0) (fun i hi => by have := (k4 i (by omega) (by omega)).2; rwa [show ((i : Nat) : Int).toNat = i by omega] at this)
  rw [← k9] at k10 hub
  have y1 : y.2.1 x5.toInt = x6.toInt := rSc_c hY.1.2.1 s1 t1 sc1 ec1 (by omega)
  have hlg := hY.2.2.2.2.1 x5.toInt k10 hub.2
  rw [y1] at hlg
  have hup : y.1 x5.toInt = rUa y.1 (x4.toInt + 1).toNat x2.toInt := by
    rw [show (x4.toInt + 1).toNat = ic0 + 1 by omega, k9]
    rfl
  have hps := rPo_s hY.2.2 k10 hub.2
  rw [y1, hup] at hps
  rw [hup] at hlg
  have q0 : rB2 K n p 251 [rR x0, rI x1, rI x2, rI x3, rI x4] σ := ro2_251.mpr (by
    refine ⟨C, y, hY, k1, k2, k3, ⟨g, r, k4⟩, k5, k6, k7, ?_⟩
    have e9 : rVk p.1 x6.toInt = rPo y (rUa y.1 x4.toInt.toNat x2.toInt) := by
      rw [rVk_eq f2 f3, k8, ← hps, show x4.toInt.toNat = ic0 by omega, ← k9]
    rw [← e9]
    exact f0.2)
  exact ⟨p, fun _ => rfl, ⟨(fun q h => by cases h), fun q h => (by cases h), (fun f h => by cases h), (aAllc ⟨_, rfl, (rF_b (r := 4021) (by decide) rfl).mpr q0⟩ (fun f h => by cases h))⟩, [], List.mem_cons_self, fun f h => (by cases h)⟩
theorem rw_rzT3 {K : Nat → Nat} {n : Nat} {JX : (Nat → jcell) → Prop} : aGho (rG K n) fa_T K n JX ag_rzT3 := by
  refine aGho_of ⟨rfl, rfl⟩ ?_
  intro p σ ρ hH hX hA hM0
  have hG := aAG_of hA.1 (fun i e v he hv => (hA.2 i e v he hv).1)
  clear hA
  obtain ⟨v0, v1, v2, v3, v4, v5, rfl, g0, g1, g2, g3, g4, g5⟩ := rA_6 hG
  clear hG
  obtain ⟨x0, rfl, b0, d0⟩ := rG_ref (by decide) g0
  obtain ⟨x1, rfl, b1, d1⟩ := aG_int g1
  dsimp only at b1 d1
  obtain ⟨x2, rfl, b2, d2⟩ := aG_int g2
  dsimp only at b2 d2
  obtain ⟨x3, rfl, b3, d3⟩ := aG_int g3
  dsimp only at b3 d3
  obtain ⟨x4, rfl, b4, d4⟩ := aG_int g4
  dsimp only at b4 d4
  obtain ⟨x5, rfl, b5, d5⟩ := aG_int g5
  dsimp only at b5 d5
  obtain ⟨m1, m2, m3, m4⟩ := hM0
  obtain ⟨T, hT⟩ := rTe_ex hH b0 d0
  have l0 : 0 ≤ (1 * x5.toInt + (-1 * x4.toInt + 0)) + 1 := by
    obtain ⟨z, e6, e7⟩ := m3 ([(5, 1), (4, -1)], 1) (List.mem_of_getElem? (i := 0) rfl)
    obtain rfl : (1 * x5.toInt + (-1 * x4.toInt + 0)) = z := Option.some.inj (show some (1 * x5.toInt + (-1 * x4.toInt + 0)) = some z from e6)
    exact e7
  have l1 : 0 ≤ (-1 * x5.toInt + (1 * x4.toInt + 0)) + -1 := by
    obtain ⟨z, e6, e7⟩ := m3 ([(5, -1), (4, 1)], -1) (List.mem_of_getElem? (i := 1) rfl)
    obtain rfl : (-1 * x5.toInt + (1 * x4.toInt + 0)) = z := Option.some.inj (show some (-1 * x5.toInt + (1 * x4.toInt + 0)) = some z from e6)
    exact e7
  have f0 : rB2 K n p 251 [rR x0, rI x1, rI x2, rI x3, rI x4] σ := by
    obtain ⟨w, e6, e7⟩ := m4 (4021, [0, 1, 2, 3, 4]) (List.mem_of_getElem? (i := 0) rfl)
    obtain rfl : [rR x0, rI x1, rI x2, rI x3, rI x4] = w := Option.some.inj (show some [rR x0, rI x1, rI x2, rI x3, rI x4] = some w from e6)
    exact (rF_b (r := 4021) (by decide) rfl).mp e7
  have f0 := ro2_251.mp f0
  clear m1 m2 m3 m4
  have q0 : rB2 K n p 250 [rR x0, rI x1, rI x2, rI x3, rI x5] σ := ro2_250.mpr (by
    obtain ⟨C, y, hY, k1, k2, k3, k4, k5, k6, k7, k8⟩ := f0
    exact ⟨C, y, hY, k1, k2, k3, k4, k5, by omega, by omega, by rw [show (x5.toInt + 1).toNat = x4.toInt.toNat by omega]; exact k8⟩)
  exact ⟨p, fun _ => rfl, ⟨(fun q h => by cases h), fun q h => (by cases h), (fun f h => by cases h), (aAllc ⟨_, rfl, (rF_b (r := 4005) (by decide) rfl).mpr q0⟩ (fun f h => by cases h))⟩, [], List.mem_cons_self, fun f h => (by cases h)⟩
theorem rw_rzE {K : Nat → Nat} {n : Nat} {JX : (Nat → jcell) → Prop} : aGho (rG K n) fa_T K n JX ag_rzE := by
  refine aGho_of ⟨rfl, rfl⟩ ?_
  intro p σ ρ hH hX hA hM0
  have hG := aAG_of hA.1 (fun i e v he hv => (hA.2 i e v he hv).1)
  clear hA
  obtain ⟨v0, v1, v2, v3, v4, rfl, g0, g1, g2, g3, g4⟩ := rA_5 hG
  clear hG
  obtain ⟨x0, rfl, b0, d0⟩ := rG_ref (by decide) g0
  obtain ⟨x1, rfl, b1, d1⟩ := aG_int g1
  dsimp only at b1 d1
  obtain ⟨x2, rfl, b2, d2⟩ := aG_int g2
  dsimp only at b2 d2
  obtain ⟨x3, rfl, b3, d3⟩ := aG_int g3
  dsimp only at b3 d3
  obtain ⟨x4, rfl, b4, d4⟩ := aG_int g4
  dsimp only at b4 d4
  obtain ⟨m1, m2, m3, m4⟩ := hM0
  obtain ⟨T, hT⟩ := rTe_ex hH b0 d0
  have f0 : rB2 K n p 250 [rR x0, rI x1, rI x2, rI x3, rI x4] σ := by
    obtain ⟨w, e6, e7⟩ := m4 (4005, [0, 1, 2, 3, 4]) (List.mem_of_getElem? (i := 0) rfl)
    obtain rfl : [rR x0, rI x1, rI x2, rI x3, rI x4] = w := Option.some.inj (show some [rR x0, rI x1, rI x2, rI x3, rI x4] = some w from e6)
    exact (rF_b (r := 4005) (by decide) rfl).mp e7
  have f0 := ro2_250.mp f0
  clear m1 m2 m3 m4
  obtain ⟨C, y, hY, k1, k2, k3, k4, k5, k6, k7, k8⟩ := f0
  rw [show (x4.toInt + 1).toNat = 0 by omega] at k8
  have q0 : rB2 K n ((rPo y x2.toInt, none) : rP) 400 [rR x0] σ := ro2_400.mpr (by
    exact ⟨rfl, k8⟩)
  have q1 : rB2 K n ((rPo y x2.toInt, none) : rP) 24 [] σ := ro2_24.mpr (by
    exact rPo_g hY.2.2 k1 k2)
  have q2 : rB2 K n ((rPo y x2.toInt, none) : rP) 449 [rR x0, rI x1, rI x2] σ := ro2_449_3.mpr (by
    exact ⟨rfl, C, y, hY, k1, k2, rfl⟩)
  exact ⟨((rPo y x2.toInt, none) : rP), fun h => (by cases h), ⟨(fun q h => by cases h), fun q h => (by cases h), (fun f h => by cases h), (aAllc ⟨_, rfl, (rF_b (r := 6401) (by decide) rfl).mpr q0⟩ (aAllc ⟨_, rfl, (rF_b (r := 384) (by decide) rfl).mpr q1⟩ (aAllc ⟨_, rfl, (rF_b (r := 7187) (by decide) rfl).mpr q2⟩ (fun f h => by cases h))))⟩, [], List.mem_cons_self, fun f h => (by cases h)⟩
theorem rw_rzN {K : Nat → Nat} {n : Nat} {JX : (Nat → jcell) → Prop} : aGho (rG K n) fa_T K n JX ag_rzN := by
  refine aGho_of ⟨rfl, rfl⟩ ?_
  intro p σ ρ hH hX hA hM0
  have hG := aAG_of hA.1 (fun i e v he hv => (hA.2 i e v he hv).1)
  clear hA
  obtain ⟨v0, v1, rfl, g0, g1⟩ := rA_2 hG
  clear hG
  obtain ⟨x0, rfl, b0, d0⟩ := rG_ref (by decide) g0
  obtain ⟨x1, rfl, b1, d1⟩ := aG_int g1
  dsimp only at b1 d1
  obtain ⟨m1, m2, m3, m4⟩ := hM0
  obtain ⟨T, hT⟩ := rTe_ex hH b0 d0
  obtain ⟨a0, c0, fs0, w0, e1, s0, t0, e4⟩ := m1 (0, 29, 1) (List.mem_of_getElem? (i := 0) rfl)
  obtain rfl : x0 = a0 := Sum.inl.inj (Option.some.inj (Sum.inr.inj (Sum.inr.inj (Option.some.inj (show some (rR x0) = some _ from e1)))))
  obtain rfl : rI x1 = w0 := Option.some.inj (show some (rI x1) = some w0 from e4)
  clear e1 e4
  have l0 : 0 ≤ (-2 * x1.toInt + 0) + 2597 := by
    obtain ⟨z, e6, e7⟩ := m3 ([(1, -2)], 2597) (List.mem_of_getElem? (i := 0) rfl)
    obtain rfl : (-2 * x1.toInt + 0) = z := Option.some.inj (show some (-2 * x1.toInt + 0) = some z from e6)
    exact e7
  have l1 : 0 ≤ (1 * x1.toInt + 0) + 0 := by
    obtain ⟨z, e6, e7⟩ := m3 ([(1, 1)], 0) (List.mem_of_getElem? (i := 1) rfl)
    obtain rfl : (1 * x1.toInt + 0) = z := Option.some.inj (show some (1 * x1.toInt + 0) = some z from e6)
    exact e7
  clear m1 m2 m3 m4
  have q0 : rB2 K n p 220 [rR x0] σ := ro2_220.mpr (by
    exact ⟨x1, ⟨b0, d0, _, _, s0, t0⟩, by omega, by omega⟩)
  exact ⟨p, fun _ => rfl, ⟨(fun q h => by cases h), fun q h => (by cases h), (fun f h => by cases h), (aAllc ⟨_, rfl, (rF_b (r := 3521) (by decide) rfl).mpr q0⟩ (fun f h => by cases h))⟩, [], List.mem_cons_self, fun f h => (by cases h)⟩
theorem rw_rzNp {K : Nat → Nat} {n : Nat} {JX : (Nat → jcell) → Prop} : aGho (rG K n) fa_T K n JX ag_rzNp := by
  refine aGho_of ⟨rfl, rfl⟩ ?_
  intro p σ ρ hH hX hA hM0
  have hG := aAG_of hA.1 (fun i e v he hv => (hA.2 i e v he hv).1)
  clear hA
  obtain ⟨v0, v1, rfl, g0, g1⟩ := rA_2 hG
  clear hG
  obtain ⟨x0, rfl, b0, d0⟩ := rG_ref (by decide) g0
  obtain ⟨x1, rfl, b1, d1⟩ := aG_int g1
  dsimp only at b1 d1
  obtain ⟨m1, m2, m3, m4⟩ := hM0
  obtain ⟨T, hT⟩ := rTe_ex hH b0 d0
  obtain ⟨a0, c0, fs0, w0, e1, s0, t0, e4⟩ := m1 (0, 29, 1) (List.mem_of_getElem? (i := 0) rfl)
  obtain rfl : x0 = a0 := Sum.inl.inj (Option.some.inj (Sum.inr.inj (Sum.inr.inj (Option.some.inj (show some (rR x0) = some _ from e1)))))
  obtain rfl : rI x1 = w0 := Option.some.inj (show some (rI x1) = some w0 from e4)
  clear e1 e4
  have l0 : 0 ≤ (-2 * x1.toInt + 0) + 2597 := by
    obtain ⟨z, e6, e7⟩ := m3 ([(1, -2)], 2597) (List.mem_of_getElem? (i := 0) rfl)
    obtain rfl : (-2 * x1.toInt + 0) = z := Option.some.inj (show some (-2 * x1.toInt + 0) = some z from e6)
    exact e7
  clear m1 m2 m3 m4
  have r0 : 0 ≤ (-1 * x1.toInt + 0) + 1298 := by
    omega
  exact ⟨p, fun _ => rfl, ⟨(fun q h => by cases h), fun q h => (by cases h), (aAllc ⟨_, rfl, r0⟩ (fun f h => by cases h)), (fun f h => by cases h)⟩, [], List.mem_cons_self, fun f h => (by cases h)⟩
theorem rw_rzSL {K : Nat → Nat} {n : Nat} {JX : (Nat → jcell) → Prop} : aGho (rG K n) fa_T K n JX ag_rzSL := by
  refine aGho_of ⟨rfl, rfl⟩ ?_
  intro p σ ρ hH hX hA hM0
  have hG := aAG_of hA.1 (fun i e v he hv => (hA.2 i e v he hv).1)
  clear hA
  obtain ⟨v0, v1, v2, v3, rfl, g0, g1, g2, g3⟩ := rA_4 hG
  clear hG
  obtain ⟨x0, rfl, b0, d0⟩ := rG_ref (by decide) g0
  obtain ⟨x1, rfl, b1, d1⟩ := aG_int g1
  dsimp only at b1 d1
  obtain ⟨x2, rfl, b2, d2⟩ := aG_int g2
  dsimp only at b2 d2
  obtain ⟨x3, rfl, b3, d3⟩ := aG_int g3
  dsimp only at b3 d3
  obtain ⟨m1, m2, m3, m4⟩ := hM0
  obtain ⟨T, hT⟩ := rTe_ex hH b0 d0
  obtain ⟨a0, c0, fs0, w0, e1, s0, t0, e4⟩ := m1 (0, 33, 3) (List.mem_of_getElem? (i := 0) rfl)
  obtain rfl : x0 = a0 := Sum.inl.inj (Option.some.inj (Sum.inr.inj (Sum.inr.inj (Option.some.inj (show some (rR x0) = some _ from e1)))))
  obtain rfl : rI x3 = w0 := Option.some.inj (show some (rI x3) = some w0 from e4)
  clear e1 e4
  have f0 : rB2 K n p 400 [rR x0] σ := by
    obtain ⟨w, e6, e7⟩ := m4 (6401, [0]) (List.mem_of_getElem? (i := 0) rfl)
    obtain rfl : [rR x0] = w := Option.some.inj (show some [rR x0] = some w from e6)
    exact (rF_b (r := 6401) (by decide) rfl).mp e7
  obtain ⟨hp, hR⟩ := ro2_400.mp f0
  obtain rfl := rMg_u hT hR.1
  have f1 : rB2 K n p 438 [rR x0, rI x3] σ := by
    obtain ⟨w, e6, e7⟩ := m4 (7010, [0, 3]) (List.mem_of_getElem? (i := 1) rfl)
    obtain rfl : [rR x0, rI x3] = w := Option.some.inj (show some [rR x0, rI x3] = some w from e6)
    exact (rF_b (r := 7010) (by decide) rfl).mp e7
  have f1 := ro2_438.mp f1
  have f2 : rB2 K n p 449 [rR x0, rI x1, rI x2] σ := by
    obtain ⟨w, e6, e7⟩ := m4 (7187, [0, 1, 2]) (List.mem_of_getElem? (i := 2) rfl)
    obtain rfl : [rR x0, rI x1, rI x2] = w := Option.some.inj (show some [rR x0, rI x1, rI x2] = some w from e6)
    exact (rF_b (r := 7187) (by decide) rfl).mp e7
  have f2 := ro2_449_3.mp f2
  have f3 : rB2 K n p 220 [rR x0] σ := by
    obtain ⟨w, e6, e7⟩ := m4 (3521, [0]) (List.mem_of_getElem? (i := 3) rfl)
    obtain rfl : [rR x0] = w := Option.some.inj (show some [rR x0] = some w from e6)
    exact (rF_b (r := 3521) (by decide) rfl).mp e7
  have f3 := ro2_220.mp f3
  clear m1 m2 m3 m4
  have q0 : rB2 K n p 245 [rR x0, rI x1, rI x2] σ := ro2_245.mpr (by
    obtain ⟨hp9, C, y, hY, k1, k2, k3⟩ := f2
    obtain ⟨v, ov, v0, v1⟩ := f3
    obtain ⟨g5, g6, r5, r6, eq, ez⟩ := hY.1.2.2.2.2
    have hg := rPo_g hY.2.2 k1 k2
    refine ⟨y.1, y.2.1, y.2.2.2.2.1, y.2.2.2.2.2, x3, v, hY.1.1, hY.1.2.1, hY.1.2.2.2.2, ?_, hg, ⟨⟨b0, d0, _, _, s0, t0⟩, f1.1, ?_⟩, ov, v0, v1⟩
    · rw [show rPo3 y.1 y.2.1 y.2.2.2.2.1 x2.toInt = p.1 from k3.symm]
      exact hR
    · rw [show rPo3 y.1 y.2.1 y.2.2.2.2.1 x2.toInt = p.1 from k3.symm]
      exact f1.2)
  exact ⟨p, fun _ => rfl, ⟨(fun q h => by cases h), fun q h => (by cases h), (fun f h => by cases h), (aAllc ⟨_, rfl, (rF_b (r := 3923) (by decide) rfl).mpr q0⟩ (fun f h => by cases h))⟩, [], List.mem_cons_self, fun f h => (by cases h)⟩
theorem rw_raC {K : Nat → Nat} {n : Nat} {JX : (Nat → jcell) → Prop} : aGho (rG K n) fa_T K n JX ag_raC := by
  refine aGho_of ⟨rfl, rfl⟩ ?_
  intro p σ ρ hH hX hA hM0
  have hG := aAG_of hA.1 (fun i e v he hv => (hA.2 i e v he hv).1)
  clear hA
  obtain ⟨v0, v1, v2, v3, rfl, g0, g1, g2, g3⟩ := rA_4 hG
  clear hG
  obtain ⟨x0, rfl, b0, d0⟩ := rG_ref (by decide) g0
  obtain ⟨x1, rfl, b1, d1⟩ := rG_ref (by decide) g1
  obtain ⟨x2, rfl, b2, d2⟩ := aG_int g2
  dsimp only at b2 d2
  obtain ⟨x3, rfl, b3, d3⟩ := aG_int g3
  dsimp only at b3 d3
  obtain ⟨m1, m2, m3, m4⟩ := hM0
  obtain ⟨T, hT⟩ := rTe_ex hH b0 d0
  obtain ⟨a0, c0, fs0, w0, e1, s0, t0, e4⟩ := m1 (0, 10, 1) (List.mem_of_getElem? (i := 0) rfl)
  obtain rfl : x0 = a0 := Sum.inl.inj (Option.some.inj (Sum.inr.inj (Sum.inr.inj (Option.some.inj (show some (rR x0) = some _ from e1)))))
  obtain rfl : rR x1 = w0 := Option.some.inj (show some (rR x1) = some w0 from e4)
  clear e1 e4
  clear m1 m2 m3 m4
  have q0 : rB2 K n p 256 [rR x0, rI x2] (jup σ x1 (jsto (σ x1) x2.toNatClampNeg x3)) := ro2_256.mpr (by
    obtain ⟨g, h⟩ := rRo_of (k := 62) (f := 10) (kr := 68) (len := 602) hH b0 d0 s0 t0 b1 d1 rfl
    refine ⟨by omega, _, rRo_up h s0 t0, ?_⟩
    have hi : x2.toNatClampNeg = x2.toInt.toNat := rfl
    unfold upd
    rw [if_pos (by rw [hi])]
    omega)
  exact ⟨p, fun _ => rfl, ⟨(fun q h => by cases h), fun q h => (by cases h), (fun f h => by cases h), (aAllc ⟨_, rfl, rF_p (r := 4098) (by decide) (by decide) q0⟩ (fun f h => by cases h))⟩, [], List.mem_cons_self, fun f h => (by cases h)⟩
theorem rw_raN {K : Nat → Nat} {n : Nat} {JX : (Nat → jcell) → Prop} : aGho (rG K n) fa_T K n JX ag_raN := by
  refine aGho_of ⟨rfl, rfl⟩ ?_
  intro p σ ρ hH hX hA hM0
  have hG := aAG_of hA.1 (fun i e v he hv => (hA.2 i e v he hv).1)
  clear hA
  obtain ⟨v0, v1, v2, v3, rfl, g0, g1, g2, g3⟩ := rA_4 hG
  clear hG
  obtain ⟨x0, rfl, b0, d0⟩ := rG_ref (by decide) g0
  obtain ⟨x1, rfl, b1, d1⟩ := rG_ref (by decide) g1
  obtain ⟨x2, rfl, b2, d2⟩ := aG_int g2
  dsimp only at b2 d2
  obtain ⟨x3, rfl, b3, d3⟩ := aG_int g3
  dsimp only at b3 d3
  obtain ⟨m1, m2, m3, m4⟩ := hM0
  obtain ⟨T, hT⟩ := rTe_ex hH b0 d0
  obtain ⟨a0, c0, fs0, w0, e1, s0, t0, e4⟩ := m1 (0, 11, 1) (List.mem_of_getElem? (i := 0) rfl)
  obtain rfl : x0 = a0 := Sum.inl.inj (Option.some.inj (Sum.inr.inj (Sum.inr.inj (Option.some.inj (show some (rR x0) = some _ from e1)))))
  obtain rfl : rR x1 = w0 := Option.some.inj (show some (rR x1) = some w0 from e4)
  clear e1 e4
  clear m1 m2 m3 m4
  have q0 : rB2 K n p 257 [rR x0, rI x2] (jup σ x1 (jsto (σ x1) x2.toNatClampNeg x3)) := ro2_257.mpr (by
    obtain ⟨g, h⟩ := rRo_of (k := 62) (f := 11) (kr := 69) (len := 602) hH b0 d0 s0 t0 b1 d1 rfl
    refine ⟨by omega, _, rRo_up h s0 t0, ?_⟩
    have hi : x2.toNatClampNeg = x2.toInt.toNat := rfl
    unfold upd
    rw [if_pos (by rw [hi])]
    omega)
  exact ⟨p, fun _ => rfl, ⟨(fun q h => by cases h), fun q h => (by cases h), (fun f h => by cases h), (aAllc ⟨_, rfl, rF_p (r := 4114) (by decide) (by decide) q0⟩ (fun f h => by cases h))⟩, [], List.mem_cons_self, fun f h => (by cases h)⟩
theorem rw_rvPW {K : Nat → Nat} {n : Nat} {JX : (Nat → jcell) → Prop} : aGho (rG K n) fa_T K n JX ag_rvPW := by
  refine aGho_of ⟨rfl, rfl⟩ ?_
  intro p σ ρ hH hX hA hM0
  have hG := aAG_of hA.1 (fun i e v he hv => (hA.2 i e v he hv).1)
  clear hA
  obtain ⟨v0, rfl, g0⟩ := rA_1 hG
  clear hG
  obtain ⟨x0, rfl, b0, d0⟩ := aG_int g0
  dsimp only at b0 d0
  obtain ⟨m1, m2, m3, m4⟩ := hM0
  clear m1 m2 m3 m4
  have hd : (0 ≤ (1 * x0.toInt + 0) + 1 ∧ 0 ≤ (-1 * x0.toInt + 0) + -1) ∨ (0 ≤ (1 * x0.toInt + 0) + 0) := by
    omega
  rcases hd with ⟨w0, w1⟩ | w0
  · exact ⟨p, fun _ => rfl, ⟨(fun q h => by cases h), fun q h => (by cases h), (fun f h => by cases h), (fun f h => by cases h)⟩, _, List.mem_of_getElem? (i := 0) rfl, (aAllc ⟨_, rfl, w0⟩ (aAllc ⟨_, rfl, w1⟩ (fun f h => by cases h)))⟩
  · exact ⟨p, fun _ => rfl, ⟨(fun q h => by cases h), fun q h => (by cases h), (fun f h => by cases h), (fun f h => by cases h)⟩, _, List.mem_of_getElem? (i := 1) rfl, (aAllc ⟨_, rfl, w0⟩ (fun f h => by cases h))⟩
theorem rw_raA0 {K : Nat → Nat} {n : Nat} {JX : (Nat → jcell) → Prop} : aGho (rG K n) fa_T K n JX ag_raA0 := by
  refine aGho_of ⟨rfl, rfl⟩ ?_
  intro p σ ρ hH hX hA hM0
  have hG := aAG_of hA.1 (fun i e v he hv => (hA.2 i e v he hv).1)
  clear hA
  obtain ⟨v0, v1, v2, v3, v4, v5, v6, rfl, g0, g1, g2, g3, g4, g5, g6⟩ := rA_7 hG
  clear hG
  obtain ⟨x0, rfl, b0, d0⟩ := rG_ref (by decide) g0
  obtain ⟨x1, rfl, b1, d1⟩ := aG_int g1
  dsimp only at b1 d1
  obtain ⟨x2, rfl, b2, d2⟩ := aG_int g2
  dsimp only at b2 d2
  obtain ⟨x3, rfl, b3, d3⟩ := aG_int g3
  dsimp only at b3 d3
  obtain ⟨x4, rfl, b4, d4⟩ := aG_int g4
  dsimp only at b4 d4
  obtain ⟨x5, rfl, b5, d5⟩ := aG_int g5
  dsimp only at b5 d5
  obtain ⟨x6, rfl, b6, d6⟩ := rG_ref (by decide) g6
  obtain ⟨m1, m2, m3, m4⟩ := hM0
  obtain ⟨T, hT⟩ := rTe_ex hH b0 d0
  obtain ⟨a0, c0, fs0, w0, e1, s0, t0, e4⟩ := m1 (0, 7, 6) (List.mem_of_getElem? (i := 0) rfl)
  obtain rfl : x0 = a0 := Sum.inl.inj (Option.some.inj (Sum.inr.inj (Sum.inr.inj (Option.some.inj (show some (rR x0) = some _ from e1)))))
  obtain rfl : rR x6 = w0 := Option.some.inj (show some (rR x6) = some w0 from e4)
  clear e1 e4
  obtain ⟨a, mc0, ty0, gc0, ic0, e1, sc0, jc0, e4, e5⟩ := m2 (6, ([(1, 1)], 0), 4) (List.mem_of_getElem? (i := 0) rfl)
  obtain rfl : x6 = a := Sum.inl.inj (Option.some.inj (Sum.inr.inj (Sum.inr.inj (Option.some.inj (show some (rR x6) = some _ from e1)))))
  obtain ⟨gc0, rfl⟩ : ∃ g, gc0 = .inl g := by
    rcases gc0 with g | g
    · exact ⟨g, rfl⟩
    · exact absurd (show some (rI x4) = some (.inr (.inl (g ic0))) from e5) (fun h => by cases h)
  have sc0 : σ x6 = .inl (ty0, mc0, .inl gc0) := sc0
  have ec0 : x4 = gc0 ic0 := Sum.inl.inj (Option.some.inj (show some (rI x4) = some _ from e5))
  have kc0 : (ic0 : Int) = (1 * x1.toInt + 0) + 0 := by
    obtain ⟨z, e6, e7⟩ := e4
    obtain rfl : (1 * x1.toInt + 0) = z := Option.some.inj (show some (1 * x1.toInt + 0) = some z from e6)
    exact e7
  clear e1 e4 e5
  have l0 : 0 ≤ (1 * x5.toInt + (-1 * x4.toInt + 0)) + -1 := by
    obtain ⟨z, e6, e7⟩ := m3 ([(5, 1), (4, -1)], -1) (List.mem_of_getElem? (i := 0) rfl)
    obtain rfl : (1 * x5.toInt + (-1 * x4.toInt + 0)) = z := Option.some.inj (show some (1 * x5.toInt + (-1 * x4.toInt + 0)) = some z from e6)
    exact e7
  have l1 : 0 ≤ (-1 * x5.toInt + (1 * x4.toInt + 0)) + 1 := by
    obtain ⟨z, e6, e7⟩ := m3 ([(5, -1), (4, 1)], 1) (List.mem_of_getElem? (i := 1) rfl)
    obtain rfl : (-1 * x5.toInt + (1 * x4.toInt + 0)) = z := Option.some.inj (show some (-1 * x5.toInt + (1 * x4.toInt + 0)) = some z from e6)
    exact e7
  have f0 : rB2 K n p 241 [rR x0, rI x1, rI x2] σ := by
    obtain ⟨w, e6, e7⟩ := m4 (3859, [0, 1, 2]) (List.mem_of_getElem? (i := 0) rfl)
    obtain rfl : [rR x0, rI x1, rI x2] = w := Option.some.inj (show some [rR x0, rI x1, rI x2] = some w from e6)
    exact (rF_b (r := 3859) (by decide) rfl).mp e7
  obtain ⟨C, y, hY, f0⟩ := ro2_241.mp f0
  have f1 : rB2 K n p 266 [rR x0, rI x1, rI x2, rI x3] σ := by
    obtain ⟨w, e6, e7⟩ := m4 (4260, [0, 1, 2, 3]) (List.mem_of_getElem? (i := 1) rfl)
    obtain rfl : [rR x0, rI x1, rI x2, rI x3] = w := Option.some.inj (show some [rR x0, rI x1, rI x2, rI x3] = some w from e6)
    exact (rF_b (r := 4260) (by decide) rfl).mp e7
  obtain ⟨C9, y9, h9, f1⟩ := ro2_266.mp f1
  obtain ⟨rfl, rfl⟩ := rTY_u hY h9
  clear h9
  have f2 : rB2 K n p 264 [rR x0, rI x1] σ := by
    obtain ⟨w, e6, e7⟩ := m4 (4226, [0, 1]) (List.mem_of_getElem? (i := 2) rfl)
    obtain rfl : [rR x0, rI x1] = w := Option.some.inj (show some [rR x0, rI x1] = some w from e6)
    exact (rF_b (r := 4226) (by decide) rfl).mp e7
  have f2 := ro2_264.mp f2
  clear m1 m2 m3 m4
  obtain ⟨gC, rC, eC⟩ := hY.2.1
  have e0 := rRo_c (i := ic0) rC s0 t0 sc0 ec0
  rw [show ic0 = x1.toInt.toNat by omega, eC] at e0
  obtain ⟨k0, g9, r9, h9⟩ := f2
  obtain rfl := rRo_u rC r9
  rw [eC] at h9
  have hn := f0.2
  have r0 : 0 ≤ (-1 * x4.toInt + 0) + 299 := by
    omega
  have r1 : 0 ≤ (1 * x4.toInt + (-1 * x2.toInt + 0)) + 0 := by
    omega
  have q0 : rB2 K n p 258 [rR x0, rI x1, rI x2, rI x3, rI x5] σ := ro2_258.mpr (by
    exact ⟨y, hY.1, b1, by omega, by omega, by rw [show x5.toInt - 1 = C by omega]; exact hY.2.2, f0.1, by omega, f1.1, f1.2⟩)
  exact ⟨p, fun _ => rfl, ⟨(fun q h => by cases h), fun q h => (by cases h), (aAllc ⟨_, rfl, r0⟩ (aAllc ⟨_, rfl, r1⟩ (fun f h => by cases h))), (aAllc ⟨_, rfl, (rF_b (r := 4133) (by decide) rfl).mpr q0⟩ (fun f h => by cases h))⟩, [], List.mem_cons_self, fun f h => (by cases h)⟩
theorem rw_raCT {K : Nat → Nat} {n : Nat} {JX : (Nat → jcell) → Prop} : aGho (rG K n) fa_T K n JX ag_raCT := by
  refine aGho_of ⟨rfl, rfl⟩ ?_
  intro p σ ρ hH hX hA hM0
  have hG := aAG_of hA.1 (fun i e v he hv => (hA.2 i e v he hv).1)
  clear hA
  obtain ⟨v0, v1, v2, v3, rfl, g0, g1, g2, g3⟩ := rA_4 hG
  clear hG
  obtain ⟨x0, rfl, b0, d0⟩ := rG_ref (by decide) g0
  obtain ⟨x1, rfl, b1, d1⟩ := rG_ref (by decide) g1
  obtain ⟨x2, rfl, b2, d2⟩ := aG_int g2
  dsimp only at b2 d2
  obtain ⟨x3, rfl, b3, d3⟩ := aG_int g3
  dsimp only at b3 d3
  obtain ⟨m1, m2, m3, m4⟩ := hM0
  obtain ⟨T, hT⟩ := rTe_ex hH b0 d0
  obtain ⟨a0, c0, fs0, w0, e1, s0, t0, e4⟩ := m1 (0, 7, 1) (List.mem_of_getElem? (i := 0) rfl)
  obtain rfl : x0 = a0 := Sum.inl.inj (Option.some.inj (Sum.inr.inj (Sum.inr.inj (Option.some.inj (show some (rR x0) = some _ from e1)))))
  obtain rfl : rR x1 = w0 := Option.some.inj (show some (rR x1) = some w0 from e4)
  clear e1 e4
  clear m1 m2 m3 m4
  have q0 : rB2 K n p 262 [rR x0, rI x2, rI x3] (jup σ x1 (jsto (σ x1) x2.toNatClampNeg x3)) := ro2_262.mpr (by
    obtain ⟨g, h⟩ := rRo_of (k := 62) (f := 7) (kr := 65) (len := 2) hH b0 d0 s0 t0 b1 d1 rfl
    refine ⟨by omega, _, rRo_up h s0 t0, ?_⟩
    have hi : x2.toNatClampNeg = x2.toInt.toNat := rfl
    unfold upd
    rw [if_pos (by rw [hi])])
  exact ⟨p, fun _ => rfl, ⟨(fun q h => by cases h), fun q h => (by cases h), (fun f h => by cases h), (aAllc ⟨_, rfl, rF_p (r := 4195) (by decide) (by decide) q0⟩ (fun f h => by cases h))⟩, [], List.mem_cons_self, fun f h => (by cases h)⟩
theorem rw_raP {K : Nat → Nat} {n : Nat} {JX : (Nat → jcell) → Prop} : aGho (rG K n) fa_T K n JX ag_raP := by
  refine aGho_of ⟨rfl, rfl⟩ ?_
  intro p σ ρ hH hX hA hM0
  have hG := aAG_of hA.1 (fun i e v he hv => (hA.2 i e v he hv).1)
  clear hA
  obtain ⟨v0, v1, v2, v3, v4, v5, rfl, g0, g1, g2, g3, g4, g5⟩ := rA_6 hG
  clear hG
  obtain ⟨x0, rfl, b0, d0⟩ := rG_ref (by decide) g0
  obtain ⟨x1, rfl, b1, d1⟩ := rG_ref (by decide) g1
  obtain ⟨x2, rfl, b2, d2⟩ := aG_int g2
  dsimp only at b2 d2
  obtain ⟨x3, rfl, b3, d3⟩ := aG_int g3
  dsimp only at b3 d3
  obtain ⟨x4, rfl, b4, d4⟩ := aG_int g4
  dsimp only at b4 d4
  obtain ⟨x5, rfl, b5, d5⟩ := aG_int g5
  dsimp only at b5 d5
  obtain ⟨m1, m2, m3, m4⟩ := hM0
  obtain ⟨T, hT⟩ := rTe_ex hH b0 d0
  obtain ⟨a0, c0, fs0, w0, e1, s0, t0, e4⟩ := m1 (0, 8, 1) (List.mem_of_getElem? (i := 0) rfl)
  obtain rfl : x0 = a0 := Sum.inl.inj (Option.some.inj (Sum.inr.inj (Sum.inr.inj (Option.some.inj (show some (rR x0) = some _ from e1)))))
  obtain rfl : rR x1 = w0 := Option.some.inj (show some (rR x1) = some w0 from e4)
  clear e1 e4
  have l0 : 0 ≤ (1 * x4.toInt + (-301 * x2.toInt + (-1 * x3.toInt + 0))) + 0 := by
    obtain ⟨z, e6, e7⟩ := m3 ([(4, 1), (2, -301), (3, -1)], 0) (List.mem_of_getElem? (i := 0) rfl)
    obtain rfl : (1 * x4.toInt + (-301 * x2.toInt + (-1 * x3.toInt + 0))) = z := Option.some.inj (show some (1 * x4.toInt + (-301 * x2.toInt + (-1 * x3.toInt + 0))) = some z from e6)
    exact e7
  have l1 : 0 ≤ (-1 * x4.toInt + (301 * x2.toInt + (1 * x3.toInt + 0))) + 0 := by
    obtain ⟨z, e6, e7⟩ := m3 ([(4, -1), (2, 301), (3, 1)], 0) (List.mem_of_getElem? (i := 1) rfl)
    obtain rfl : (-1 * x4.toInt + (301 * x2.toInt + (1 * x3.toInt + 0))) = z := Option.some.inj (show some (-1 * x4.toInt + (301 * x2.toInt + (1 * x3.toInt + 0))) = some z from e6)
    exact e7
  clear m1 m2 m3 m4
  have q0 : rB2 K n p 259 [rR x0, rI x2, rI x3, rI x5] (jup σ x1 (jsto (σ x1) x4.toNatClampNeg x5)) := ro2_259.mpr (by
    obtain ⟨g, h⟩ := rRo_of (k := 62) (f := 8) (kr := 66) (len := 602) hH b0 d0 s0 t0 b1 d1 rfl
    refine ⟨by omega, _, rRo_up h s0 t0, ?_⟩
    have hi : x4.toNatClampNeg = x4.toInt.toNat := rfl
    unfold upd
    rw [if_pos (by rw [hi]; omega)])
  exact ⟨p, fun _ => rfl, ⟨(fun q h => by cases h), fun q h => (by cases h), (fun f h => by cases h), (aAllc ⟨_, rfl, rF_p (r := 4148) (by decide) (by decide) q0⟩ (fun f h => by cases h))⟩, [], List.mem_cons_self, fun f h => (by cases h)⟩
theorem rw_raM {K : Nat → Nat} {n : Nat} {JX : (Nat → jcell) → Prop} : aGho (rG K n) fa_T K n JX ag_raM := by
  refine aGho_of ⟨rfl, rfl⟩ ?_
  intro p σ ρ hH hX hA hM0
  have hG := aAG_of hA.1 (fun i e v he hv => (hA.2 i e v he hv).1)
  clear hA
  obtain ⟨v0, v1, v2, v3, v4, v5, rfl, g0, g1, g2, g3, g4, g5⟩ := rA_6 hG
  clear hG
  obtain ⟨x0, rfl, b0, d0⟩ := rG_ref (by decide) g0
  obtain ⟨x1, rfl, b1, d1⟩ := rG_ref (by decide) g1
  obtain ⟨x2, rfl, b2, d2⟩ := aG_int g2
  dsimp only at b2 d2
  obtain ⟨x3, rfl, b3, d3⟩ := aG_int g3
  dsimp only at b3 d3
  obtain ⟨x4, rfl, b4, d4⟩ := aG_int g4
  dsimp only at b4 d4
  obtain ⟨x5, rfl, b5, d5⟩ := aG_int g5
  dsimp only at b5 d5
  obtain ⟨m1, m2, m3, m4⟩ := hM0
  obtain ⟨T, hT⟩ := rTe_ex hH b0 d0
  obtain ⟨a0, c0, fs0, w0, e1, s0, t0, e4⟩ := m1 (0, 9, 1) (List.mem_of_getElem? (i := 0) rfl)
  obtain rfl : x0 = a0 := Sum.inl.inj (Option.some.inj (Sum.inr.inj (Sum.inr.inj (Option.some.inj (show some (rR x0) = some _ from e1)))))
  obtain rfl : rR x1 = w0 := Option.some.inj (show some (rR x1) = some w0 from e4)
  clear e1 e4
  have l0 : 0 ≤ (1 * x4.toInt + (-301 * x2.toInt + (-1 * x3.toInt + 0))) + 0 := by
    obtain ⟨z, e6, e7⟩ := m3 ([(4, 1), (2, -301), (3, -1)], 0) (List.mem_of_getElem? (i := 0) rfl)
    obtain rfl : (1 * x4.toInt + (-301 * x2.toInt + (-1 * x3.toInt + 0))) = z := Option.some.inj (show some (1 * x4.toInt + (-301 * x2.toInt + (-1 * x3.toInt + 0))) = some z from e6)
    exact e7
  have l1 : 0 ≤ (-1 * x4.toInt + (301 * x2.toInt + (1 * x3.toInt + 0))) + 0 := by
    obtain ⟨z, e6, e7⟩ := m3 ([(4, -1), (2, 301), (3, 1)], 0) (List.mem_of_getElem? (i := 1) rfl)
    obtain rfl : (-1 * x4.toInt + (301 * x2.toInt + (1 * x3.toInt + 0))) = z := Option.some.inj (show some (-1 * x4.toInt + (301 * x2.toInt + (1 * x3.toInt + 0))) = some z from e6)
    exact e7
  clear m1 m2 m3 m4
  have q0 : rB2 K n p 260 [rR x0, rI x2, rI x3, rI x5] (jup σ x1 (jsto (σ x1) x4.toNatClampNeg x5)) := ro2_260.mpr (by
    obtain ⟨g, h⟩ := rRo_of (k := 62) (f := 9) (kr := 67) (len := 602) hH b0 d0 s0 t0 b1 d1 rfl
    refine ⟨by omega, _, rRo_up h s0 t0, ?_⟩
    have hi : x4.toNatClampNeg = x4.toInt.toNat := rfl
    unfold upd
    rw [if_pos (by rw [hi]; omega)])
  exact ⟨p, fun _ => rfl, ⟨(fun q h => by cases h), fun q h => (by cases h), (fun f h => by cases h), (aAllc ⟨_, rfl, rF_p (r := 4164) (by decide) (by decide) q0⟩ (fun f h => by cases h))⟩, [], List.mem_cons_self, fun f h => (by cases h)⟩
theorem rw_raLc {K : Nat → Nat} {n : Nat} {JX : (Nat → jcell) → Prop} : aGho (rG K n) fa_T K n JX ag_raLc := by
  refine aGho_of ⟨rfl, rfl⟩ ?_
  intro p σ ρ hH hX hA hM0
  have hG := aAG_of hA.1 (fun i e v he hv => (hA.2 i e v he hv).1)
  clear hA
  obtain ⟨v0, v1, v2, v3, v4, v5, v6, v7, v8, rfl, g0, g1, g2, g3, g4, g5, g6, g7, g8⟩ := rA_9 hG
  clear hG
  obtain ⟨x0, rfl, b0, d0⟩ := rG_ref (by decide) g0
  obtain ⟨x1, rfl, b1, d1⟩ := rG_ref (by decide) g1
  obtain ⟨x2, rfl, b2, d2⟩ := aG_int g2
  dsimp only at b2 d2
  obtain ⟨x3, rfl, b3, d3⟩ := aG_int g3
  dsimp only at b3 d3
  obtain ⟨x4, rfl, b4, d4⟩ := aG_int g4
  dsimp only at b4 d4
  obtain ⟨x5, rfl, b5, d5⟩ := aG_int g5
  dsimp only at b5 d5
  obtain ⟨x6, rfl, b6, d6⟩ := aG_int g6
  dsimp only at b6 d6
  obtain ⟨x7, rfl, b7, d7⟩ := aG_int g7
  dsimp only at b7 d7
  obtain ⟨x8, rfl, b8, d8⟩ := aG_int g8
  dsimp only at b8 d8
  obtain ⟨m1, m2, m3, m4⟩ := hM0
  obtain ⟨T, hT⟩ := rTe_ex hH b0 d0
  obtain ⟨a0, c0, fs0, w0, e1, s0, t0, e4⟩ := m1 (0, 10, 1) (List.mem_of_getElem? (i := 0) rfl)
  obtain rfl : x0 = a0 := Sum.inl.inj (Option.some.inj (Sum.inr.inj (Sum.inr.inj (Option.some.inj (show some (rR x0) = some _ from e1)))))
  obtain rfl : rR x1 = w0 := Option.some.inj (show some (rR x1) = some w0 from e4)
  clear e1 e4
  obtain ⟨a, mc0, ty0, gc0, ic0, e1, sc0, jc0, e4, e5⟩ := m2 (1, ([(2, 301), (3, 1)], 0), 8) (List.mem_of_getElem? (i := 0) rfl)
  obtain rfl : x1 = a := Sum.inl.inj (Option.some.inj (Sum.inr.inj (Sum.inr.inj (Option.some.inj (show some (rR x1) = some _ from e1)))))
  obtain ⟨gc0, rfl⟩ : ∃ g, gc0 = .inl g := by
    rcases gc0 with g | g
    · exact ⟨g, rfl⟩
    · exact absurd (show some (rI x8) = some (.inr (.inl (g ic0))) from e5) (fun h => by cases h)
  have sc0 : σ x1 = .inl (ty0, mc0, .inl gc0) := sc0
  have ec0 : x8 = gc0 ic0 := Sum.inl.inj (Option.some.inj (show some (rI x8) = some _ from e5))
  have kc0 : (ic0 : Int) = (301 * x2.toInt + (1 * x3.toInt + 0)) + 0 := by
    obtain ⟨z, e6, e7⟩ := e4
    obtain rfl : (301 * x2.toInt + (1 * x3.toInt + 0)) = z := Option.some.inj (show some (301 * x2.toInt + (1 * x3.toInt + 0)) = some z from e6)
    exact e7
  clear e1 e4 e5
  have l0 : 0 ≤ (1 * x6.toInt + (-301 * x2.toInt + (-1 * x5.toInt + 0))) + 0 := by
    obtain ⟨z, e6, e7⟩ := m3 ([(6, 1), (2, -301), (5, -1)], 0) (List.mem_of_getElem? (i := 0) rfl)
    obtain rfl : (1 * x6.toInt + (-301 * x2.toInt + (-1 * x5.toInt + 0))) = z := Option.some.inj (show some (1 * x6.toInt + (-301 * x2.toInt + (-1 * x5.toInt + 0))) = some z from e6)
    exact e7
  have l1 : 0 ≤ (-1 * x6.toInt + (301 * x2.toInt + (1 * x5.toInt + 0))) + 0 := by
    obtain ⟨z, e6, e7⟩ := m3 ([(6, -1), (2, 301), (5, 1)], 0) (List.mem_of_getElem? (i := 1) rfl)
    obtain rfl : (-1 * x6.toInt + (301 * x2.toInt + (1 * x5.toInt + 0))) = z := Option.some.inj (show some (-1 * x6.toInt + (301 * x2.toInt + (1 * x5.toInt + 0))) = some z from e6)
    exact e7
  have l2 : 0 ≤ (1 * x7.toInt + (-301 * x2.toInt + (-1 * x3.toInt + 0))) + 0 := by
    obtain ⟨z, e6, e7⟩ := m3 ([(7, 1), (2, -301), (3, -1)], 0) (List.mem_of_getElem? (i := 2) rfl)
    obtain rfl : (1 * x7.toInt + (-301 * x2.toInt + (-1 * x3.toInt + 0))) = z := Option.some.inj (show some (1 * x7.toInt + (-301 * x2.toInt + (-1 * x3.toInt + 0))) = some z from e6)
    exact e7
  have l3 : 0 ≤ (-1 * x7.toInt + (301 * x2.toInt + (1 * x3.toInt + 0))) + 0 := by
    obtain ⟨z, e6, e7⟩ := m3 ([(7, -1), (2, 301), (3, 1)], 0) (List.mem_of_getElem? (i := 3) rfl)
    obtain rfl : (-1 * x7.toInt + (301 * x2.toInt + (1 * x3.toInt + 0))) = z := Option.some.inj (show some (-1 * x7.toInt + (301 * x2.toInt + (1 * x3.toInt + 0))) = some z from e6)
    exact e7
  have f0 : rB2 K n p 258 [rR x0, rI x2, rI x3, rI x4, rI x5] σ := by
    obtain ⟨w, e6, e7⟩ := m4 (4133, [0, 2, 3, 4, 5]) (List.mem_of_getElem? (i := 0) rfl)
    obtain rfl : [rR x0, rI x2, rI x3, rI x4, rI x5] = w := Option.some.inj (show some [rR x0, rI x2, rI x3, rI x4, rI x5] = some w from e6)
    exact (rF_b (r := 4133) (by decide) rfl).mp e7
  have f0 := ro2_258.mp f0
  have f1 : rB2 K n p 259 [rR x0, rI x2, rI x5, rI x3] σ := by
    obtain ⟨w, e6, e7⟩ := m4 (4148, [0, 2, 5, 3]) (List.mem_of_getElem? (i := 1) rfl)
    obtain rfl : [rR x0, rI x2, rI x5, rI x3] = w := Option.some.inj (show some [rR x0, rI x2, rI x5, rI x3] = some w from e6)
    exact (rF_b (r := 4148) (by decide) rfl).mp e7
  have f1 := ro2_259.mp f1
  have f2 : rB2 K n p 260 [rR x0, rI x2, rI x5, rI x4] σ := by
    obtain ⟨w, e6, e7⟩ := m4 (4164, [0, 2, 5, 4]) (List.mem_of_getElem? (i := 2) rfl)
    obtain rfl : [rR x0, rI x2, rI x5, rI x4] = w := Option.some.inj (show some [rR x0, rI x2, rI x5, rI x4] = some w from e6)
    exact (rF_b (r := 4164) (by decide) rfl).mp e7
  have f2 := ro2_260.mp f2
  have f3 : rB2 K n p 256 [rR x0, rI x6] σ := by
    obtain ⟨w, e6, e7⟩ := m4 (4098, [0, 6]) (List.mem_of_getElem? (i := 3) rfl)
    obtain rfl : [rR x0, rI x6] = w := Option.some.inj (show some [rR x0, rI x6] = some w from e6)
    exact (rF_b (r := 4098) (by decide) rfl).mp e7
  have f3 := ro2_256.mp f3
  have f4 : rB2 K n p 257 [rR x0, rI x6] σ := by
    obtain ⟨w, e6, e7⟩ := m4 (4114, [0, 6]) (List.mem_of_getElem? (i := 4) rfl)
    obtain rfl : [rR x0, rI x6] = w := Option.some.inj (show some [rR x0, rI x6] = some w from e6)
    exact (rF_b (r := 4114) (by decide) rfl).mp e7
  have f4 := ro2_257.mp f4
  clear m1 m2 m3 m4
  have q0 : rB2 K n p 261 [rR x0, rI x2, rI x5] (jup σ x1 (jsto (σ x1) x7.toNatClampNeg x5)) := ro2_261.mpr (by
    obtain ⟨y, hT, a1, a2, a3, a4, a5, a6, a7, a8⟩ := f0
    obtain ⟨-, g1, r1, e1⟩ := f1
    obtain ⟨-, g2, r2, e2⟩ := f2
    obtain ⟨-, g3, r3, e3⟩ := f3
    obtain ⟨-, g4, r4, e4⟩ := f4
    obtain ⟨⟨h1, q1, z1⟩, ⟨h2, q2, z2⟩, ⟨h3, q3, z3⟩, ⟨h4, q4, z4⟩, h5, h6, q5, q6, z5, z6⟩ := hT
    obtain rfl := rRo_u r1 q1
    obtain rfl := rRo_u r2 q2
    obtain rfl := rRo_u r3 q3
    obtain rfl := rRo_u r4 q4
    have ei : x6.toInt = 301 * x2.toInt + x5.toInt := by omega
    rw [ei] at e3 e4
    have hi : x7.toNatClampNeg = x7.toInt.toNat := rfl
    have u1 : y.1 (x5.toInt - 1 + 1) = x3.toInt := by
      rw [z1, show x5.toInt - 1 + 1 = x5.toInt by omega]
      exact e1
    have u2 : y.2.1 (x5.toInt - 1 + 1) = x4.toInt := by
      rw [z2, show x5.toInt - 1 + 1 = x5.toInt by omega]
      exact e2
    have u3 : y.2.2.1 (x5.toInt - 1 + 1) = -1 := by
      rw [z3, show x5.toInt - 1 + 1 = x5.toInt by omega]
      exact e3
    have u4 : y.2.2.2.1 (x5.toInt - 1 + 1) = -1 := by
      rw [z4, show x5.toInt - 1 + 1 = x5.toInt by omega]
      exact e4
    have hc : y.2.2.1 x3.toInt = -1 := by
      have e := rRo_c (i := ic0) r3 s0 t0 sc0 ec0
      rw [z3]
      show (g3 (301 * x2.toInt + x3.toInt).toNat).toInt = -1
      rw [show (301 * x2.toInt + x3.toInt).toNat = ic0 by omega, e]
      omega
    have w3 : ∀ k, 0 ≤ k → k ≤ x5.toInt → rSc (upd g3 x7.toNatClampNeg x5) x2.toInt k = if k = x3.toInt then x5.toInt else y.2.2.1 k := fun k k0 k1 => by
      show ((upd g3 x7.toNatClampNeg x5) (301 * x2.toInt + k).toNat).toInt = _
      unfold upd
      by_cases ck : k = x3.toInt
      · rw [if_pos ck, if_pos (by rw [hi]; omega)]
      · rw [if_neg ck, if_neg (by rw [hi]; omega), z3]
        rfl
    refine ⟨(y.1, y.2.1, rSc (upd g3 x7.toNatClampNeg x5) x2.toInt, y.2.2.2.1, y.2.2.2.2), ⟨⟨g1, rRo_o r1 (by omega) (by omega), z1⟩, ⟨g2, rRo_o r2 (by omega) (by omega), z2⟩, ⟨_, rRo_up r3 s0 t0, rfl⟩, ⟨g4, rRo_o r4 (by omega) (by omega), z4⟩, h5, h6, rRo_o q5 (by omega) (by omega), rRo_o q6 (by omega) (by omega), z5, z6⟩, a1, ?_, b5⟩
    rw [show x5.toInt = x5.toInt - 1 + 1 by omega]
    refine rTr_ap a4 (by omega) a5 a6 a7 a8 (fun _ _ _ => rfl) (fun _ _ _ => rfl) rfl u1 u2 ?_ u4 (fun k k0 k1 kn => ?_) ?_ (fun k k0 k1 => ?_)
    · dsimp only
      rw [w3 _ (by omega) (by omega), if_neg (by omega)]
      exact u3
    · dsimp only
      rw [w3 k k0 (by omega), if_neg kn]
    · dsimp only
      rw [w3 _ b3 (by omega), if_pos rfl, if_pos hc]
      omega
    · dsimp only
      rw [if_neg]
      rintro ⟨⟨hp, h1k⟩, -⟩
      obtain ⟨L, -, m2, m3, -⟩ := rTr_L a4 a5 a6
      have hm := (m3 k).mpr ⟨h1k, k1, hp⟩
      rw [hc] at m2
      match L, m2, m3, hm with
      | [], _, _, hm => cases hm
      | d :: r, m2, m3, _ =>
        have e9 : -1 = d := m2.1
        have := (m3 d).mp List.mem_cons_self
        omega)
  exact ⟨p, fun _ => rfl, ⟨(fun q h => by cases h), fun q h => (by cases h), (fun f h => by cases h), (aAllc ⟨_, rfl, rF_p (r := 4179) (by decide) (by decide) q0⟩ (fun f h => by cases h))⟩, [], List.mem_cons_self, fun f h => (by cases h)⟩
theorem rw_raD0 {K : Nat → Nat} {n : Nat} {JX : (Nat → jcell) → Prop} : aGho (rG K n) fa_T K n JX ag_raD0 := by
  refine aGho_n1 (b := (0, 301)) rfl rfl ?_
  intro p σ ρ hH hX hA hM0
  have hG := aAG_of hA.1 (fun i e v he hv => (hA.2 i e v he hv).1)
  clear hA
  obtain ⟨v0, v1, v2, v3, v4, v5, v6, rfl, g0, g1, g2, g3, g4, g5, g6⟩ := rA_7 hG
  clear hG
  obtain ⟨x0, rfl, b0, d0⟩ := rG_ref (by decide) g0
  obtain ⟨x1, rfl, b1, d1⟩ := aG_int g1
  dsimp only at b1 d1
  obtain ⟨x2, rfl, b2, d2⟩ := aG_int g2
  dsimp only at b2 d2
  obtain ⟨x3, rfl, b3, d3⟩ := aG_int g3
  dsimp only at b3 d3
  obtain ⟨x4, rfl, b4, d4⟩ := aG_int g4
  dsimp only at b4 d4
  obtain ⟨x5, rfl, b5, d5⟩ := aG_int g5
  dsimp only at b5 d5
  obtain ⟨x6, rfl, b6, d6⟩ := rG_ref (by decide) g6
  obtain ⟨m1, m2, m3, m4⟩ := hM0
  obtain ⟨T, hT⟩ := rTe_ex hH b0 d0
  obtain ⟨a0, c0, fs0, w0, e1, s0, t0, e4⟩ := m1 (0, 10, 6) (List.mem_of_getElem? (i := 0) rfl)
  obtain rfl : x0 = a0 := Sum.inl.inj (Option.some.inj (Sum.inr.inj (Sum.inr.inj (Option.some.inj (show some (rR x0) = some _ from e1)))))
  obtain rfl : rR x6 = w0 := Option.some.inj (show some (rR x6) = some w0 from e4)
  clear e1 e4
  obtain ⟨a, mc0, ty0, gc0, ic0, e1, sc0, jc0, e4, e5⟩ := m2 (6, ([(1, 301), (2, 1)], 0), 5) (List.mem_of_getElem? (i := 0) rfl)
  obtain rfl : x6 = a := Sum.inl.inj (Option.some.inj (Sum.inr.inj (Sum.inr.inj (Option.some.inj (show some (rR x6) = some _ from e1)))))
  obtain ⟨gc0, rfl⟩ : ∃ g, gc0 = .inl g := by
    rcases gc0 with g | g
    · exact ⟨g, rfl⟩
    · exact absurd (show some (rI x5) = some (.inr (.inl (g ic0))) from e5) (fun h => by cases h)
  have sc0 : σ x6 = .inl (ty0, mc0, .inl gc0) := sc0
  have ec0 : x5 = gc0 ic0 := Sum.inl.inj (Option.some.inj (show some (rI x5) = some _ from e5))
  have kc0 : (ic0 : Int) = (301 * x1.toInt + (1 * x2.toInt + 0)) + 0 := by
    obtain ⟨z, e6, e7⟩ := e4
    obtain rfl : (301 * x1.toInt + (1 * x2.toInt + 0)) = z := Option.some.inj (show some (301 * x1.toInt + (1 * x2.toInt + 0)) = some z from e6)
    exact e7
  clear e1 e4 e5
  have f0 : rB2 K n p 258 [rR x0, rI x1, rI x2, rI x3, rI x4] σ := by
    obtain ⟨w, e6, e7⟩ := m4 (4133, [0, 1, 2, 3, 4]) (List.mem_of_getElem? (i := 0) rfl)
    obtain rfl : [rR x0, rI x1, rI x2, rI x3, rI x4] = w := Option.some.inj (show some [rR x0, rI x1, rI x2, rI x3, rI x4] = some w from e6)
    exact (rF_b (r := 4133) (by decide) rfl).mp e7
  have f0 := ro2_258.mp f0
  clear m1 m2 m3 m4
  obtain ⟨y, hT, a1, a2, a3, a4, a5, a6, a7, a8⟩ := f0
  have hc : y.2.2.1 x2.toInt = x5.toInt := rSc_c hT.2.2.1 s0 t0 sc0 ec0 (by omega)
  obtain ⟨L, n1, n2, n3, n4⟩ := rTr_L a4 a5 a6
  obtain ⟨d, r, rfl⟩ : ∃ d r, L = d :: r := by
    match L, n2 with
    | [], n2 => have e : y.2.2.1 x2.toInt = -1 := n2; omega
    | d :: r, _ => exact ⟨d, r, rfl⟩
  have l0 : y.2.2.1 x2.toInt = d := n2.1
  have l1 : d = x5.toInt := by omega
  have hd1 := (n3 d).mp List.mem_cons_self
  have l3 : (d :: r).length = r.length + 1 := rfl
  obtain ⟨x7, e7⟩ := rI32 (z := (r.length : Int)) (by omega) (by omega)
  have b7 : 0 ≤ x7.toInt := by omega
  have d7 : x7.toInt ≤ 301 := by omega
  have r0 : 0 ≤ (1 * x4.toInt + (-1 * x5.toInt + 0)) + -1 := by
    omega
  have q0 : rB2 K n p 263 [rR x0, rI x1, rI x2, rI x5, rI x7] σ := ro2_263.mpr (by
    exact ⟨y, hT, [], r, by rw [hc, ← l1]; rw [l0] at n2; exact n2, fun c hc => by have := (n3 c).mp (by rw [← l1, List.nil_append] at hc; exact hc); omega, by omega⟩)
  exact ⟨p, x7, fun _ => rfl, b7, d7, ⟨(fun q h => by cases h), fun q h => (by cases h), (aAllc ⟨_, rfl, r0⟩ (fun f h => by cases h)), (aAllc ⟨_, rfl, (rF_b (r := 4213) (by decide) rfl).mpr q0⟩ (fun f h => by cases h))⟩, [], List.mem_cons_self, fun f h => (by cases h)⟩
theorem rw_raDn {K : Nat → Nat} {n : Nat} {JX : (Nat → jcell) → Prop} : aGho (rG K n) fa_T K n JX ag_raDn := by
  refine aGho_n1 (b := (0, 301)) rfl rfl ?_
  intro p σ ρ hH hX hA hM0
  have hG := aAG_of hA.1 (fun i e v he hv => (hA.2 i e v he hv).1)
  clear hA
  obtain ⟨v0, v1, v2, v3, v4, v5, v6, v7, v8, rfl, g0, g1, g2, g3, g4, g5, g6, g7, g8⟩ := rA_9 hG
  clear hG
  obtain ⟨x0, rfl, b0, d0⟩ := rG_ref (by decide) g0
  obtain ⟨x1, rfl, b1, d1⟩ := aG_int g1
  dsimp only at b1 d1
  obtain ⟨x2, rfl, b2, d2⟩ := aG_int g2
  dsimp only at b2 d2
  obtain ⟨x3, rfl, b3, d3⟩ := aG_int g3
  dsimp only at b3 d3
  obtain ⟨x4, rfl, b4, d4⟩ := aG_int g4
  dsimp only at b4 d4
  obtain ⟨x5, rfl, b5, d5⟩ := aG_int g5
  dsimp only at b5 d5
  obtain ⟨x6, rfl, b6, d6⟩ := aG_int g6
  dsimp only at b6 d6
  obtain ⟨x7, rfl, b7, d7⟩ := aG_int g7
  dsimp only at b7 d7
  obtain ⟨x8, rfl, b8, d8⟩ := rG_ref (by decide) g8
  obtain ⟨m1, m2, m3, m4⟩ := hM0
  obtain ⟨T, hT⟩ := rTe_ex hH b0 d0
  obtain ⟨a0, c0, fs0, w0, e1, s0, t0, e4⟩ := m1 (0, 11, 8) (List.mem_of_getElem? (i := 0) rfl)
  obtain rfl : x0 = a0 := Sum.inl.inj (Option.some.inj (Sum.inr.inj (Sum.inr.inj (Option.some.inj (show some (rR x0) = some _ from e1)))))
  obtain rfl : rR x8 = w0 := Option.some.inj (show some (rR x8) = some w0 from e4)
  clear e1 e4
  obtain ⟨a, mc0, ty0, gc0, ic0, e1, sc0, jc0, e4, e5⟩ := m2 (8, ([(1, 301), (3, 1)], 0), 5) (List.mem_of_getElem? (i := 0) rfl)
  obtain rfl : x8 = a := Sum.inl.inj (Option.some.inj (Sum.inr.inj (Sum.inr.inj (Option.some.inj (show some (rR x8) = some _ from e1)))))
  obtain ⟨gc0, rfl⟩ : ∃ g, gc0 = .inl g := by
    rcases gc0 with g | g
    · exact ⟨g, rfl⟩
    · exact absurd (show some (rI x5) = some (.inr (.inl (g ic0))) from e5) (fun h => by cases h)
  have sc0 : σ x8 = .inl (ty0, mc0, .inl gc0) := sc0
  have ec0 : x5 = gc0 ic0 := Sum.inl.inj (Option.some.inj (show some (rI x5) = some _ from e5))
  have kc0 : (ic0 : Int) = (301 * x1.toInt + (1 * x3.toInt + 0)) + 0 := by
    obtain ⟨z, e6, e7⟩ := e4
    obtain rfl : (301 * x1.toInt + (1 * x3.toInt + 0)) = z := Option.some.inj (show some (301 * x1.toInt + (1 * x3.toInt + 0)) = some z from e6)
    exact e7
  clear e1 e4 e5
  have f0 : rB2 K n p 263 [rR x0, rI x1, rI x2, rI x3, rI x4] σ := by
    obtain ⟨w, e6, e7⟩ := m4 (4213, [0, 1, 2, 3, 4]) (List.mem_of_getElem? (i := 0) rfl)
    obtain rfl : [rR x0, rI x1, rI x2, rI x3, rI x4] = w := Option.some.inj (show some [rR x0, rI x1, rI x2, rI x3, rI x4] = some w from e6)
    exact (rF_b (r := 4213) (by decide) rfl).mp e7
  have f0 := ro2_263.mp f0
  have f1 : rB2 K n p 258 [rR x0, rI x1, rI x2, rI x7, rI x6] σ := by
    obtain ⟨w, e6, e7⟩ := m4 (4133, [0, 1, 2, 7, 6]) (List.mem_of_getElem? (i := 1) rfl)
    obtain rfl : [rR x0, rI x1, rI x2, rI x7, rI x6] = w := Option.some.inj (show some [rR x0, rI x1, rI x2, rI x7, rI x6] = some w from e6)
    exact (rF_b (r := 4133) (by decide) rfl).mp e7
  have f1 := ro2_258.mp f1
  clear m1 m2 m3 m4
  obtain ⟨y, hT, a1, a2, a3, a4, a5, a6, a7, a8⟩ := f1
  obtain ⟨y9, hT9, A, B, j1, j2, j3⟩ := f0
  obtain rfl := rTy_u hT hT9
  obtain ⟨L, n1, n2, n3, n4⟩ := rTr_L a4 a5 a6
  have eL : L = A ++ x3.toInt :: B := rCn_uq n2 j1 (fun c hc => by have := (n3 c).mp hc; omega) (fun c hc => by have := j2 c hc; omega)
  have hn : y.2.2.2.1 x3.toInt = x5.toInt := rSc_c hT.2.2.2.1 s0 t0 sc0 ec0 (by omega)
  have hm := rCn_mv j1
  obtain ⟨d, r, rfl⟩ : ∃ d r, B = d :: r := by
    match B, hm with
    | [], hm => have e : y.2.2.2.1 x3.toInt = -1 := hm; omega
    | d :: r, _ => exact ⟨d, r, rfl⟩
  have l0 : y.2.2.2.1 x3.toInt = d := hm.1
  have l1 : d = x5.toInt := by omega
  have hd1 := (n3 d).mp (by rw [eL]; exact List.mem_append_right _ (List.mem_cons_of_mem _ List.mem_cons_self))
  have l3 : (d :: r).length = r.length + 1 := rfl
  have l4 := rNd_len (x6.toInt - 1).toNat (A ++ x3.toInt :: d :: r) (by rw [← eL]; exact n1) (fun c hc => by have := (n3 c).mp (by rw [eL]; exact hc); omega)
  rw [List.length_append, show (x3.toInt :: d :: r).length = r.length + 2 from rfl] at l4
  obtain ⟨x9, e9⟩ := rI32 (z := (r.length : Int)) (by omega) (by omega)
  have b9 : 0 ≤ x9.toInt := by omega
  have d9 : x9.toInt ≤ 301 := by omega
  have r0 : 0 ≤ (1 * x4.toInt + (-1 * x9.toInt + 0)) + -1 := by
    omega
  have r1 : 0 ≤ (1 * x6.toInt + (-1 * x5.toInt + 0)) + -1 := by
    omega
  have q0 : rB2 K n p 263 [rR x0, rI x1, rI x2, rI x5, rI x9] σ := ro2_263.mpr (by
    exact ⟨y, hT, A ++ [x3.toInt], r, by rw [List.append_assoc]; show rCn _ _ (A ++ x3.toInt :: x5.toInt :: r); rw [← l1]; exact j1, fun c hc => j2 c (by rw [List.append_assoc] at hc; rw [l1]; exact hc), by omega⟩)
  exact ⟨p, x9, fun _ => rfl, b9, d9, ⟨(fun q h => by cases h), fun q h => (by cases h), (aAllc ⟨_, rfl, r0⟩ (aAllc ⟨_, rfl, r1⟩ (fun f h => by cases h))), (aAllc ⟨_, rfl, (rF_b (r := 4213) (by decide) rfl).mpr q0⟩ (fun f h => by cases h))⟩, [], List.mem_cons_self, fun f h => (by cases h)⟩
theorem rw_raLn {K : Nat → Nat} {n : Nat} {JX : (Nat → jcell) → Prop} : aGho (rG K n) fa_T K n JX ag_raLn := by
  refine aGho_of ⟨rfl, rfl⟩ ?_
  intro p σ ρ hH hX hA hM0
  have hG := aAG_of hA.1 (fun i e v he hv => (hA.2 i e v he hv).1)
  clear hA
  obtain ⟨v0, v1, v2, v3, v4, v5, v6, v7, v8, v9, v10, rfl, g0, g1, g2, g3, g4, g5, g6, g7, g8, g9, g10⟩ := rA_11 hG
  clear hG
  obtain ⟨x0, rfl, b0, d0⟩ := rG_ref (by decide) g0
  obtain ⟨x1, rfl, b1, d1⟩ := rG_ref (by decide) g1
  obtain ⟨x2, rfl, b2, d2⟩ := aG_int g2
  dsimp only at b2 d2
  obtain ⟨x3, rfl, b3, d3⟩ := aG_int g3
  dsimp only at b3 d3
  obtain ⟨x4, rfl, b4, d4⟩ := aG_int g4
  dsimp only at b4 d4
  obtain ⟨x5, rfl, b5, d5⟩ := aG_int g5
  dsimp only at b5 d5
  obtain ⟨x6, rfl, b6, d6⟩ := aG_int g6
  dsimp only at b6 d6
  obtain ⟨x7, rfl, b7, d7⟩ := aG_int g7
  dsimp only at b7 d7
  obtain ⟨x8, rfl, b8, d8⟩ := aG_int g8
  dsimp only at b8 d8
  obtain ⟨x9, rfl, b9, d9⟩ := aG_int g9
  dsimp only at b9 d9
  obtain ⟨x10, rfl, b10, d10⟩ := aG_int g10
  dsimp only at b10 d10
  obtain ⟨m1, m2, m3, m4⟩ := hM0
  obtain ⟨T, hT⟩ := rTe_ex hH b0 d0
  obtain ⟨a0, c0, fs0, w0, e1, s0, t0, e4⟩ := m1 (0, 11, 1) (List.mem_of_getElem? (i := 0) rfl)
  obtain rfl : x0 = a0 := Sum.inl.inj (Option.some.inj (Sum.inr.inj (Sum.inr.inj (Option.some.inj (show some (rR x0) = some _ from e1)))))
  obtain rfl : rR x1 = w0 := Option.some.inj (show some (rR x1) = some w0 from e4)
  clear e1 e4
  obtain ⟨a, mc0, ty0, gc0, ic0, e1, sc0, jc0, e4, e5⟩ := m2 (1, ([(2, 301), (9, 1)], 0), 8) (List.mem_of_getElem? (i := 0) rfl)
  obtain rfl : x1 = a := Sum.inl.inj (Option.some.inj (Sum.inr.inj (Sum.inr.inj (Option.some.inj (show some (rR x1) = some _ from e1)))))
  obtain ⟨gc0, rfl⟩ : ∃ g, gc0 = .inl g := by
    rcases gc0 with g | g
    · exact ⟨g, rfl⟩
    · exact absurd (show some (rI x8) = some (.inr (.inl (g ic0))) from e5) (fun h => by cases h)
  have sc0 : σ x1 = .inl (ty0, mc0, .inl gc0) := sc0
  have ec0 : x8 = gc0 ic0 := Sum.inl.inj (Option.some.inj (show some (rI x8) = some _ from e5))
  have kc0 : (ic0 : Int) = (301 * x2.toInt + (1 * x9.toInt + 0)) + 0 := by
    obtain ⟨z, e6, e7⟩ := e4
    obtain rfl : (301 * x2.toInt + (1 * x9.toInt + 0)) = z := Option.some.inj (show some (301 * x2.toInt + (1 * x9.toInt + 0)) = some z from e6)
    exact e7
  clear e1 e4 e5
  have l0 : 0 ≤ (1 * x6.toInt + (-301 * x2.toInt + (-1 * x5.toInt + 0))) + 0 := by
    obtain ⟨z, e6, e7⟩ := m3 ([(6, 1), (2, -301), (5, -1)], 0) (List.mem_of_getElem? (i := 0) rfl)
    obtain rfl : (1 * x6.toInt + (-301 * x2.toInt + (-1 * x5.toInt + 0))) = z := Option.some.inj (show some (1 * x6.toInt + (-301 * x2.toInt + (-1 * x5.toInt + 0))) = some z from e6)
    exact e7
  have l1 : 0 ≤ (-1 * x6.toInt + (301 * x2.toInt + (1 * x5.toInt + 0))) + 0 := by
    obtain ⟨z, e6, e7⟩ := m3 ([(6, -1), (2, 301), (5, 1)], 0) (List.mem_of_getElem? (i := 1) rfl)
    obtain rfl : (-1 * x6.toInt + (301 * x2.toInt + (1 * x5.toInt + 0))) = z := Option.some.inj (show some (-1 * x6.toInt + (301 * x2.toInt + (1 * x5.toInt + 0))) = some z from e6)
    exact e7
  have l2 : 0 ≤ (1 * x7.toInt + (-301 * x2.toInt + (-1 * x9.toInt + 0))) + 0 := by
    obtain ⟨z, e6, e7⟩ := m3 ([(7, 1), (2, -301), (9, -1)], 0) (List.mem_of_getElem? (i := 2) rfl)
    obtain rfl : (1 * x7.toInt + (-301 * x2.toInt + (-1 * x9.toInt + 0))) = z := Option.some.inj (show some (1 * x7.toInt + (-301 * x2.toInt + (-1 * x9.toInt + 0))) = some z from e6)
    exact e7
  have l3 : 0 ≤ (-1 * x7.toInt + (301 * x2.toInt + (1 * x9.toInt + 0))) + 0 := by
    obtain ⟨z, e6, e7⟩ := m3 ([(7, -1), (2, 301), (9, 1)], 0) (List.mem_of_getElem? (i := 3) rfl)
    obtain rfl : (-1 * x7.toInt + (301 * x2.toInt + (1 * x9.toInt + 0))) = z := Option.some.inj (show some (-1 * x7.toInt + (301 * x2.toInt + (1 * x9.toInt + 0))) = some z from e6)
    exact e7
  have f0 : rB2 K n p 258 [rR x0, rI x2, rI x3, rI x4, rI x5] σ := by
    obtain ⟨w, e6, e7⟩ := m4 (4133, [0, 2, 3, 4, 5]) (List.mem_of_getElem? (i := 0) rfl)
    obtain rfl : [rR x0, rI x2, rI x3, rI x4, rI x5] = w := Option.some.inj (show some [rR x0, rI x2, rI x3, rI x4, rI x5] = some w from e6)
    exact (rF_b (r := 4133) (by decide) rfl).mp e7
  have f0 := ro2_258.mp f0
  have f1 : rB2 K n p 259 [rR x0, rI x2, rI x5, rI x3] σ := by
    obtain ⟨w, e6, e7⟩ := m4 (4148, [0, 2, 5, 3]) (List.mem_of_getElem? (i := 1) rfl)
    obtain rfl : [rR x0, rI x2, rI x5, rI x3] = w := Option.some.inj (show some [rR x0, rI x2, rI x5, rI x3] = some w from e6)
    exact (rF_b (r := 4148) (by decide) rfl).mp e7
  have f1 := ro2_259.mp f1
  have f2 : rB2 K n p 260 [rR x0, rI x2, rI x5, rI x4] σ := by
    obtain ⟨w, e6, e7⟩ := m4 (4164, [0, 2, 5, 4]) (List.mem_of_getElem? (i := 2) rfl)
    obtain rfl : [rR x0, rI x2, rI x5, rI x4] = w := Option.some.inj (show some [rR x0, rI x2, rI x5, rI x4] = some w from e6)
    exact (rF_b (r := 4164) (by decide) rfl).mp e7
  have f2 := ro2_260.mp f2
  have f3 : rB2 K n p 256 [rR x0, rI x6] σ := by
    obtain ⟨w, e6, e7⟩ := m4 (4098, [0, 6]) (List.mem_of_getElem? (i := 3) rfl)
    obtain rfl : [rR x0, rI x6] = w := Option.some.inj (show some [rR x0, rI x6] = some w from e6)
    exact (rF_b (r := 4098) (by decide) rfl).mp e7
  have f3 := ro2_256.mp f3
  have f4 : rB2 K n p 257 [rR x0, rI x6] σ := by
    obtain ⟨w, e6, e7⟩ := m4 (4114, [0, 6]) (List.mem_of_getElem? (i := 4) rfl)
    obtain rfl : [rR x0, rI x6] = w := Option.some.inj (show some [rR x0, rI x6] = some w from e6)
    exact (rF_b (r := 4114) (by decide) rfl).mp e7
  have f4 := ro2_257.mp f4
  have f5 : rB2 K n p 263 [rR x0, rI x2, rI x3, rI x9, rI x10] σ := by
    obtain ⟨w, e6, e7⟩ := m4 (4213, [0, 2, 3, 9, 10]) (List.mem_of_getElem? (i := 5) rfl)
    obtain rfl : [rR x0, rI x2, rI x3, rI x9, rI x10] = w := Option.some.inj (show some [rR x0, rI x2, rI x3, rI x9, rI x10] = some w from e6)
    exact (rF_b (r := 4213) (by decide) rfl).mp e7
  have f5 := ro2_263.mp f5
  clear m1 m2 m3 m4
  have q0 : rB2 K n p 261 [rR x0, rI x2, rI x5] (jup σ x1 (jsto (σ x1) x7.toNatClampNeg x5)) := ro2_261.mpr (by
    obtain ⟨y, hT, a1, a2, a3, a4, a5, a6, a7, a8⟩ := f0
    obtain ⟨-, g1, r1, e1⟩ := f1
    obtain ⟨-, g2, r2, e2⟩ := f2
    obtain ⟨-, g3, r3, e3⟩ := f3
    obtain ⟨-, g4, r4, e4⟩ := f4
    have hT0 := hT
    obtain ⟨⟨h1, q1, z1⟩, ⟨h2, q2, z2⟩, ⟨h3, q3, z3⟩, ⟨h4, q4, z4⟩, h5, h6, q5, q6, z5, z6⟩ := hT
    obtain rfl := rRo_u r1 q1
    obtain rfl := rRo_u r2 q2
    obtain rfl := rRo_u r3 q3
    obtain rfl := rRo_u r4 q4
    have ei : x6.toInt = 301 * x2.toInt + x5.toInt := by omega
    rw [ei] at e3 e4
    have hi : x7.toNatClampNeg = x7.toInt.toNat := rfl
    have u1 : y.1 (x5.toInt - 1 + 1) = x3.toInt := by
      rw [z1, show x5.toInt - 1 + 1 = x5.toInt by omega]
      exact e1
    have u2 : y.2.1 (x5.toInt - 1 + 1) = x4.toInt := by
      rw [z2, show x5.toInt - 1 + 1 = x5.toInt by omega]
      exact e2
    have u3 : y.2.2.1 (x5.toInt - 1 + 1) = -1 := by
      rw [z3, show x5.toInt - 1 + 1 = x5.toInt by omega]
      exact e3
    have u4 : y.2.2.2.1 (x5.toInt - 1 + 1) = -1 := by
      rw [z4, show x5.toInt - 1 + 1 = x5.toInt by omega]
      exact e4
    obtain ⟨y9, hT9, A, B, j1, j2, j3⟩ := f5
    obtain rfl := rTy_u hT0 hT9
    obtain ⟨L, n1, n2, n3, n4⟩ := rTr_L a4 a5 a6
    have hn : y.2.2.2.1 x9.toInt = -1 := by
      have e := rRo_c (i := ic0) r4 s0 t0 sc0 ec0
      rw [z4]
      show (g4 (301 * x2.toInt + x9.toInt).toNat).toInt = -1
      rw [show (301 * x2.toInt + x9.toInt).toNat = ic0 by omega, e]
      omega
    obtain rfl := rCn_nl j1 hn (fun d hd => by have := j2 d (List.mem_append_right _ (List.mem_cons_of_mem _ hd)); omega)
    have eL : L = A ++ [x9.toInt] := rCn_uq n2 j1 (fun c hc => by have := (n3 c).mp hc; omega) (fun c hc => by have := j2 c hc; omega)
    have h9m := (n3 x9.toInt).mp (by rw [eL]; exact List.mem_append_right _ List.mem_cons_self)
    have w4 : ∀ k, 0 ≤ k → k ≤ x5.toInt → rSc (upd g4 x7.toNatClampNeg x5) x2.toInt k = if k = x9.toInt then x5.toInt else y.2.2.2.1 k := fun k k0 k1 => by
      show ((upd g4 x7.toNatClampNeg x5) (301 * x2.toInt + k).toNat).toInt = _
      unfold upd
      by_cases ck : k = x9.toInt
      · rw [if_pos ck, if_pos (by rw [hi]; omega)]
      · rw [if_neg ck, if_neg (by rw [hi]; omega), z4]
        rfl
    have hch : ¬ y.2.2.1 x3.toInt = -1 := fun h => by
      rw [h, eL] at n2
      match A, n2 with
      | [], n2 => have e9 : -1 = x9.toInt := n2.1; omega
      | d :: r, n2 =>
        have e9 : -1 = d := n2.1
        have := j2 d List.mem_cons_self
        omega
    refine ⟨(y.1, y.2.1, y.2.2.1, rSc (upd g4 x7.toNatClampNeg x5) x2.toInt, y.2.2.2.2), ⟨⟨g1, rRo_o r1 (by omega) (by omega), z1⟩, ⟨g2, rRo_o r2 (by omega) (by omega), z2⟩, ⟨g3, rRo_o r3 (by omega) (by omega), z3⟩, ⟨_, rRo_up r4 s0 t0, rfl⟩, h5, h6, rRo_o q5 (by omega) (by omega), rRo_o q6 (by omega) (by omega), z5, z6⟩, a1, ?_, b5⟩
    rw [show x5.toInt = x5.toInt - 1 + 1 by omega]
    refine rTr_ap a4 (by omega) a5 a6 a7 a8 (fun _ _ _ => rfl) (fun _ _ _ => rfl) rfl u1 u2 u3 ?_ (fun k k0 k1 kn => rfl) ?_ (fun k k0 k1 => ?_)
    · dsimp only
      rw [w4 _ (by omega) (by omega), if_neg (by omega)]
      exact u4
    · dsimp only
      rw [if_neg hch]
    · dsimp only
      rw [w4 k k0 (by omega)]
      by_cases ck : k = x9.toInt
      · rw [if_pos ck, if_pos ⟨⟨by rw [ck]; exact h9m.2.2, by omega⟩, by rw [ck]; exact hn⟩]
        omega
      · rw [if_neg ck, if_neg]
        rintro ⟨⟨hp, h1k⟩, hz⟩
        have hm := (n3 k).mpr ⟨h1k, k1, hp⟩
        rw [eL] at hm
        exact ck (rCn_la j1 (fun d hd => by have := j2 d hd; omega) hm hz))
  exact ⟨p, fun _ => rfl, ⟨(fun q h => by cases h), fun q h => (by cases h), (fun f h => by cases h), (aAllc ⟨_, rfl, rF_p (r := 4179) (by decide) (by decide) q0⟩ (fun f h => by cases h))⟩, [], List.mem_cons_self, fun f h => (by cases h)⟩
theorem rw_raE {K : Nat → Nat} {n : Nat} {JX : (Nat → jcell) → Prop} : aGho (rG K n) fa_T K n JX ag_raE := by
  refine aGho_of ⟨rfl, rfl⟩ ?_
  intro p σ ρ hH hX hA hM0
  have hG := aAG_of hA.1 (fun i e v he hv => (hA.2 i e v he hv).1)
  clear hA
  obtain ⟨v0, v1, v2, rfl, g0, g1, g2⟩ := rA_3 hG
  clear hG
  obtain ⟨x0, rfl, b0, d0⟩ := rG_ref (by decide) g0
  obtain ⟨x1, rfl, b1, d1⟩ := aG_int g1
  dsimp only at b1 d1
  obtain ⟨x2, rfl, b2, d2⟩ := aG_int g2
  dsimp only at b2 d2
  obtain ⟨m1, m2, m3, m4⟩ := hM0
  obtain ⟨T, hT⟩ := rTe_ex hH b0 d0
  have f0 : rB2 K n p 261 [rR x0, rI x1, rI x2] σ := by
    obtain ⟨w, e6, e7⟩ := m4 (4179, [0, 1, 2]) (List.mem_of_getElem? (i := 0) rfl)
    obtain rfl : [rR x0, rI x1, rI x2] = w := Option.some.inj (show some [rR x0, rI x1, rI x2] = some w from e6)
    exact (rF_b (r := 4179) (by decide) rfl).mp e7
  have f0 := ro2_261.mp f0
  have f1 : rB2 K n p 262 [rR x0, rI x1, rI x2] σ := by
    obtain ⟨w, e6, e7⟩ := m4 (4195, [0, 1, 2]) (List.mem_of_getElem? (i := 1) rfl)
    obtain rfl : [rR x0, rI x1, rI x2] = w := Option.some.inj (show some [rR x0, rI x1, rI x2] = some w from e6)
    exact (rF_b (r := 4195) (by decide) rfl).mp e7
  have f1 := ro2_262.mp f1
  clear m1 m2 m3 m4
  have q0 : rB2 K n p 241 [rR x0, rI x1, rI x2] σ := ro2_241.mpr (by
    obtain ⟨y, hT, a1, a2, a3⟩ := f0
    obtain ⟨-, g, r, e⟩ := f1
    exact ⟨x2.toInt, y, ⟨hT, ⟨g, r, e⟩, a2⟩, by omega, by omega⟩)
  exact ⟨p, fun _ => rfl, ⟨(fun q h => by cases h), fun q h => (by cases h), (fun f h => by cases h), (aAllc ⟨_, rfl, (rF_b (r := 3859) (by decide) rfl).mpr q0⟩ (fun f h => by cases h))⟩, [], List.mem_cons_self, fun f h => (by cases h)⟩
theorem rw_rvSGn {K : Nat → Nat} {n : Nat} {JX : (Nat → jcell) → Prop} : aGho (rG K n) fa_T K n JX ag_rvSGn := by
  refine aGho_of ⟨rfl, rfl⟩ ?_
  intro p σ ρ hH hX hA hM0
  have hG := aAG_of hA.1 (fun i e v he hv => (hA.2 i e v he hv).1)
  clear hA
  obtain ⟨v0, rfl, g0⟩ := rA_1 hG
  clear hG
  obtain ⟨x0, rfl, b0, d0⟩ := aG_int g0
  dsimp only at b0 d0
  obtain ⟨m1, m2, m3, m4⟩ := hM0
  clear m1 m2 m3 m4
  have q0 : rB2 K n p 270 [rI x0] σ := ro2_270.mpr (by
    trivial)
  exact ⟨p, fun _ => rfl, ⟨(fun q h => by cases h), fun q h => (by cases h), (fun f h => by cases h), (aAllc ⟨_, rfl, (rF_b (r := 4321) (by decide) rfl).mpr q0⟩ (fun f h => by cases h))⟩, [], List.mem_cons_self, fun f h => (by cases h)⟩
theorem rw_rvSGm {K : Nat → Nat} {n : Nat} {JX : (Nat → jcell) → Prop} : aGho (rG K n) fa_T K n JX ag_rvSGm := by
  refine aGho_of ⟨rfl, rfl⟩ ?_
  intro p σ ρ hH hX hA hM0
  have hG := aAG_of hA.1 (fun i e v he hv => (hA.2 i e v he hv).1)
  clear hA
  obtain ⟨v0, rfl, g0⟩ := rA_1 hG
  clear hG
  obtain ⟨x0, rfl, b0, d0⟩ := aG_int g0
  dsimp only at b0 d0
  obtain ⟨m1, m2, m3, m4⟩ := hM0
  clear m1 m2 m3 m4
  have q0 : rB2 K n p 271 [rI x0] σ := ro2_271.mpr (by
    trivial)
  exact ⟨p, fun _ => rfl, ⟨(fun q h => by cases h), fun q h => (by cases h), (fun f h => by cases h), (aAllc ⟨_, rfl, (rF_b (r := 4337) (by decide) rfl).mpr q0⟩ (fun f h => by cases h))⟩, [], List.mem_cons_self, fun f h => (by cases h)⟩
theorem rw_rbP {K : Nat → Nat} {n : Nat} {JX : (Nat → jcell) → Prop} : aGho (rG K n) fa_T K n JX ag_rbP := by
  refine aGho_of ⟨rfl, rfl⟩ ?_
  intro p σ ρ hH hX hA hM0
  have hG := aAG_of hA.1 (fun i e v he hv => (hA.2 i e v he hv).1)
  clear hA
  obtain ⟨v0, v1, v2, v3, v4, rfl, g0, g1, g2, g3, g4⟩ := rA_5 hG
  clear hG
  obtain ⟨x0, rfl, b0, d0⟩ := rG_ref (by decide) g0
  obtain ⟨x1, rfl, b1, d1⟩ := aG_int g1
  dsimp only at b1 d1
  obtain ⟨x2, rfl, b2, d2⟩ := aG_int g2
  dsimp only at b2 d2
  obtain ⟨x3, rfl, b3, d3⟩ := aG_int g3
  dsimp only at b3 d3
  obtain ⟨x4, rfl, b4, d4⟩ := rG_ref (by decide) g4
  obtain ⟨m1, m2, m3, m4⟩ := hM0
  obtain ⟨T, hT⟩ := rTe_ex hH b0 d0
  obtain ⟨a0, c0, fs0, w0, e1, s0, t0, e4⟩ := m1 (0, 8, 4) (List.mem_of_getElem? (i := 0) rfl)
  obtain rfl : x0 = a0 := Sum.inl.inj (Option.some.inj (Sum.inr.inj (Sum.inr.inj (Option.some.inj (show some (rR x0) = some _ from e1)))))
  obtain rfl : rR x4 = w0 := Option.some.inj (show some (rR x4) = some w0 from e4)
  clear e1 e4
  obtain ⟨a, mc0, ty0, gc0, ic0, e1, sc0, jc0, e4, e5⟩ := m2 (4, ([(1, 301), (2, 1)], 0), 3) (List.mem_of_getElem? (i := 0) rfl)
  obtain rfl : x4 = a := Sum.inl.inj (Option.some.inj (Sum.inr.inj (Sum.inr.inj (Option.some.inj (show some (rR x4) = some _ from e1)))))
  obtain ⟨gc0, rfl⟩ : ∃ g, gc0 = .inl g := by
    rcases gc0 with g | g
    · exact ⟨g, rfl⟩
    · exact absurd (show some (rI x3) = some (.inr (.inl (g ic0))) from e5) (fun h => by cases h)
  have sc0 : σ x4 = .inl (ty0, mc0, .inl gc0) := sc0
  have ec0 : x3 = gc0 ic0 := Sum.inl.inj (Option.some.inj (show some (rI x3) = some _ from e5))
  have kc0 : (ic0 : Int) = (301 * x1.toInt + (1 * x2.toInt + 0)) + 0 := by
    obtain ⟨z, e6, e7⟩ := e4
    obtain rfl : (301 * x1.toInt + (1 * x2.toInt + 0)) = z := Option.some.inj (show some (301 * x1.toInt + (1 * x2.toInt + 0)) = some z from e6)
    exact e7
  clear e1 e4 e5
  have f0 : rB2 K n p 241 [rR x0, rI x1, rI x2] σ := by
    obtain ⟨w, e6, e7⟩ := m4 (3859, [0, 1, 2]) (List.mem_of_getElem? (i := 0) rfl)
    obtain rfl : [rR x0, rI x1, rI x2] = w := Option.some.inj (show some [rR x0, rI x1, rI x2] = some w from e6)
    exact (rF_b (r := 3859) (by decide) rfl).mp e7
  obtain ⟨C, y, hY, f0⟩ := ro2_241.mp f0
  clear m1 m2 m3 m4
  have y0 : y.1 x2.toInt = x3.toInt := rSc_c hY.1.1 s0 t0 sc0 ec0 (by omega)
  have hpr := hY.2.2.2.1 x2.toInt b2 f0.2
  rw [y0] at hpr
  have r0 : 0 ≤ (1 * x3.toInt + 0) + 0 := by
    omega
  have r1 : 0 ≤ (1 * x2.toInt + (-1 * x3.toInt + 0)) + -1 := by
    omega
  exact ⟨p, fun _ => rfl, ⟨(fun q h => by cases h), fun q h => (by cases h), (aAllc ⟨_, rfl, r0⟩ (aAllc ⟨_, rfl, r1⟩ (fun f h => by cases h))), (fun f h => by cases h)⟩, [], List.mem_cons_self, fun f h => (by cases h)⟩
theorem rw_rbN {K : Nat → Nat} {n : Nat} {JX : (Nat → jcell) → Prop} : aGho (rG K n) fa_T K n JX ag_rbN := by
  refine aGho_of ⟨rfl, rfl⟩ ?_
  intro p σ ρ hH hX hA hM0
  have hG := aAG_of hA.1 (fun i e v he hv => (hA.2 i e v he hv).1)
  clear hA
  obtain ⟨v0, v1, v2, v3, rfl, g0, g1, g2, g3⟩ := rA_4 hG
  clear hG
  obtain ⟨x0, rfl, b0, d0⟩ := rG_ref (by decide) g0
  obtain ⟨x1, rfl, b1, d1⟩ := aG_int g1
  dsimp only at b1 d1
  obtain ⟨x2, rfl, b2, d2⟩ := aG_int g2
  dsimp only at b2 d2
  obtain ⟨x3, rfl, b3, d3⟩ := aG_int g3
  dsimp only at b3 d3
  obtain ⟨m1, m2, m3, m4⟩ := hM0
  obtain ⟨T, hT⟩ := rTe_ex hH b0 d0
  have l0 : 0 ≤ (1 * x2.toInt + (-1 * x3.toInt + 0)) + 0 := by
    obtain ⟨z, e6, e7⟩ := m3 ([(2, 1), (3, -1)], 0) (List.mem_of_getElem? (i := 0) rfl)
    obtain rfl : (1 * x2.toInt + (-1 * x3.toInt + 0)) = z := Option.some.inj (show some (1 * x2.toInt + (-1 * x3.toInt + 0)) = some z from e6)
    exact e7
  have f0 : rB2 K n p 241 [rR x0, rI x1, rI x2] σ := by
    obtain ⟨w, e6, e7⟩ := m4 (3859, [0, 1, 2]) (List.mem_of_getElem? (i := 0) rfl)
    obtain rfl : [rR x0, rI x1, rI x2] = w := Option.some.inj (show some [rR x0, rI x1, rI x2] = some w from e6)
    exact (rF_b (r := 3859) (by decide) rfl).mp e7
  obtain ⟨C, y, hY, f0⟩ := ro2_241.mp f0
  clear m1 m2 m3 m4
  have q0 : rB2 K n p 241 [rR x0, rI x1, rI x3] σ := ro2_241.mpr ⟨C, y, hY, by
    have := f0.2
    omega⟩
  exact ⟨p, fun _ => rfl, ⟨(fun q h => by cases h), fun q h => (by cases h), (fun f h => by cases h), (aAllc ⟨_, rfl, (rF_b (r := 3859) (by decide) rfl).mpr q0⟩ (fun f h => by cases h))⟩, [], List.mem_cons_self, fun f h => (by cases h)⟩
theorem rw_rcIz {K : Nat → Nat} {n : Nat} {JX : (Nat → jcell) → Prop} : aGho (rG K n) fa_T K n JX ag_rcIz := by
  refine aGho_of ⟨rfl, rfl⟩ ?_
  intro p σ ρ hH hX hA hM0
  have hG := aAG_of hA.1 (fun i e v he hv => (hA.2 i e v he hv).1)
  clear hA
  obtain ⟨v0, v1, v2, rfl, g0, g1, g2⟩ := rA_3 hG
  clear hG
  obtain ⟨x0, rfl, b0, d0⟩ := rG_ref (by decide) g0
  obtain ⟨x1, rfl, b1, d1⟩ := aG_int g1
  dsimp only at b1 d1
  obtain ⟨x2, rfl, b2, d2⟩ := aG_int g2
  dsimp only at b2 d2
  obtain ⟨m1, m2, m3, m4⟩ := hM0
  obtain ⟨T, hT⟩ := rTe_ex hH b0 d0
  clear m1 m2 m3 m4
  have q0 : rB2 K n p 237 [rR x0, rI x1, rI x2] σ := ro2_237.mpr (by
    intro h
    omega)
  exact ⟨p, fun _ => rfl, ⟨(fun q h => by cases h), fun q h => (by cases h), (fun f h => by cases h), (aAllc ⟨_, rfl, (rF_b (r := 3795) (by decide) rfl).mpr q0⟩ (fun f h => by cases h))⟩, [], List.mem_cons_self, fun f h => (by cases h)⟩
theorem rw_rcIk {K : Nat → Nat} {n : Nat} {JX : (Nat → jcell) → Prop} : aGho (rG K n) fa_T K n JX ag_rcIk := by
  refine aGho_of ⟨rfl, rfl⟩ ?_
  intro p σ ρ hH hX hA hM0
  have hG := aAG_of hA.1 (fun i e v he hv => (hA.2 i e v he hv).1)
  clear hA
  obtain ⟨v0, v1, v2, v3, rfl, g0, g1, g2, g3⟩ := rA_4 hG
  clear hG
  obtain ⟨x0, rfl, b0, d0⟩ := rG_ref (by decide) g0
  obtain ⟨x1, rfl, b1, d1⟩ := aG_int g1
  dsimp only at b1 d1
  obtain ⟨x2, rfl, b2, d2⟩ := aG_int g2
  dsimp only at b2 d2
  obtain ⟨x3, rfl, b3, d3⟩ := aG_int g3
  dsimp only at b3 d3
  obtain ⟨m1, m2, m3, m4⟩ := hM0
  obtain ⟨T, hT⟩ := rTe_ex hH b0 d0
  have f0 : rB2 K n p 237 [rR x0, rI x1, rI x2] σ := by
    obtain ⟨w, e6, e7⟩ := m4 (3795, [0, 1, 2]) (List.mem_of_getElem? (i := 0) rfl)
    obtain rfl : [rR x0, rI x1, rI x2] = w := Option.some.inj (show some [rR x0, rI x1, rI x2] = some w from e6)
    exact (rF_b (r := 3795) (by decide) rfl).mp e7
  have f0 := ro2_237.mp f0
  clear m1 m2 m3 m4
  have q0 : rB2 K n p 237 [rR x0, rI x1, rI x3] σ := ro2_237.mpr (by
    exact fun _ => f0 (by omega))
  exact ⟨p, fun _ => rfl, ⟨(fun q h => by cases h), fun q h => (by cases h), (fun f h => by cases h), (aAllc ⟨_, rfl, (rF_b (r := 3795) (by decide) rfl).mpr q0⟩ (fun f h => by cases h))⟩, [], List.mem_cons_self, fun f h => (by cases h)⟩
theorem rw_rcIy {K : Nat → Nat} {n : Nat} {JX : (Nat → jcell) → Prop} : aGho (rG K n) fa_T K n JX ag_rcIy := by
  refine aGho_of ⟨rfl, rfl⟩ ?_
  intro p σ ρ hH hX hA hM0
  have hG := aAG_of hA.1 (fun i e v he hv => (hA.2 i e v he hv).1)
  clear hA
  obtain ⟨v0, v1, v2, v3, v4, v5, v6, rfl, g0, g1, g2, g3, g4, g5, g6⟩ := rA_7 hG
  clear hG
  obtain ⟨x0, rfl, b0, d0⟩ := rG_ref (by decide) g0
  obtain ⟨x1, rfl, b1, d1⟩ := aG_int g1
  dsimp only at b1 d1
  obtain ⟨x2, rfl, b2, d2⟩ := aG_int g2
  dsimp only at b2 d2
  obtain ⟨x3, rfl, b3, d3⟩ := aG_int g3
  dsimp only at b3 d3
  obtain ⟨x4, rfl, b4, d4⟩ := aG_int g4
  dsimp only at b4 d4
  obtain ⟨x5, rfl, b5, d5⟩ := aG_int g5
  dsimp only at b5 d5
  obtain ⟨x6, rfl, b6, d6⟩ := rG_ref (by decide) g6
  obtain ⟨m1, m2, m3, m4⟩ := hM0
  obtain ⟨T, hT⟩ := rTe_ex hH b0 d0
  obtain ⟨a0, c0, fs0, w0, e1, s0, t0, e4⟩ := m1 (0, 32, 6) (List.mem_of_getElem? (i := 0) rfl)
  obtain rfl : x0 = a0 := Sum.inl.inj (Option.some.inj (Sum.inr.inj (Sum.inr.inj (Option.some.inj (show some (rR x0) = some _ from e1)))))
  obtain rfl : rR x6 = w0 := Option.some.inj (show some (rR x6) = some w0 from e4)
  clear e1 e4
  obtain ⟨a1, c1, fs1, w1, e1, s1, t1, e4⟩ := m1 (0, 33, 4) (List.mem_of_getElem? (i := 1) rfl)
  obtain rfl : x0 = a1 := Sum.inl.inj (Option.some.inj (Sum.inr.inj (Sum.inr.inj (Option.some.inj (show some (rR x0) = some _ from e1)))))
  obtain rfl : rI x4 = w1 := Option.some.inj (show some (rI x4) = some w1 from e4)
  clear e1 e4
  obtain ⟨a, mc0, ty0, gc0, ic0, e1, sc0, jc0, e4, e5⟩ := m2 (6, ([(2, 1)], 0), 3) (List.mem_of_getElem? (i := 0) rfl)
  obtain rfl : x6 = a := Sum.inl.inj (Option.some.inj (Sum.inr.inj (Sum.inr.inj (Option.some.inj (show some (rR x6) = some _ from e1)))))
  obtain ⟨gc0, rfl⟩ : ∃ g, gc0 = .inl g := by
    rcases gc0 with g | g
    · exact ⟨g, rfl⟩
    · exact absurd (show some (rI x3) = some (.inr (.inl (g ic0))) from e5) (fun h => by cases h)
  have sc0 : σ x6 = .inl (ty0, mc0, .inl gc0) := sc0
  have ec0 : x3 = gc0 ic0 := Sum.inl.inj (Option.some.inj (show some (rI x3) = some _ from e5))
  have kc0 : (ic0 : Int) = (1 * x2.toInt + 0) + 0 := by
    obtain ⟨z, e6, e7⟩ := e4
    obtain rfl : (1 * x2.toInt + 0) = z := Option.some.inj (show some (1 * x2.toInt + 0) = some z from e6)
    exact e7
  clear e1 e4 e5
  have l0 : 0 ≤ (1 * x1.toInt + (-1 * x3.toInt + 0)) + 0 := by
    obtain ⟨z, e6, e7⟩ := m3 ([(1, 1), (3, -1)], 0) (List.mem_of_getElem? (i := 0) rfl)
    obtain rfl : (1 * x1.toInt + (-1 * x3.toInt + 0)) = z := Option.some.inj (show some (1 * x1.toInt + (-1 * x3.toInt + 0)) = some z from e6)
    exact e7
  have l1 : 0 ≤ (-1 * x1.toInt + (1 * x3.toInt + 0)) + 0 := by
    obtain ⟨z, e6, e7⟩ := m3 ([(1, -1), (3, 1)], 0) (List.mem_of_getElem? (i := 1) rfl)
    obtain rfl : (-1 * x1.toInt + (1 * x3.toInt + 0)) = z := Option.some.inj (show some (-1 * x1.toInt + (1 * x3.toInt + 0)) = some z from e6)
    exact e7
  have l2 : 0 ≤ (1 * x4.toInt + (-1 * x2.toInt + 0)) + -1 := by
    obtain ⟨z, e6, e7⟩ := m3 ([(4, 1), (2, -1)], -1) (List.mem_of_getElem? (i := 2) rfl)
    obtain rfl : (1 * x4.toInt + (-1 * x2.toInt + 0)) = z := Option.some.inj (show some (1 * x4.toInt + (-1 * x2.toInt + 0)) = some z from e6)
    exact e7
  clear m1 m2 m3 m4
  have q0 : rB2 K n p 237 [rR x0, rI x1, rI x5] σ := ro2_237.mpr (by
    intro _
    obtain ⟨g, r⟩ := rRo_ex (ko := 62) (f := 32) (kr := 85) (len := 2048) hH rfl rfl rfl (by decide) b0 d0
    have e := rRo_c (i := ic0) r s0 t0 sc0 ec0
    exact ⟨g, x4, r, ⟨b0, d0, _, _, s1, t1⟩, x2.toInt, b2, by omega, by rw [show x2.toInt.toNat = ic0 by omega, e]; omega⟩)
  exact ⟨p, fun _ => rfl, ⟨(fun q h => by cases h), fun q h => (by cases h), (fun f h => by cases h), (aAllc ⟨_, rfl, (rF_b (r := 3795) (by decide) rfl).mpr q0⟩ (fun f h => by cases h))⟩, [], List.mem_cons_self, fun f h => (by cases h)⟩
theorem rw_rcLG {K : Nat → Nat} {n : Nat} {JX : (Nat → jcell) → Prop} : aGho (rG K n) fa_T K n JX ag_rcLG := by
  refine aGho_of ⟨rfl, rfl⟩ ?_
  intro p σ ρ hH hX hA hM0
  have hG := aAG_of hA.1 (fun i e v he hv => (hA.2 i e v he hv).1)
  clear hA
  obtain ⟨v0, v1, v2, v3, v4, rfl, g0, g1, g2, g3, g4⟩ := rA_5 hG
  clear hG
  obtain ⟨x0, rfl, b0, d0⟩ := rG_ref (by decide) g0
  obtain ⟨x1, rfl, b1, d1⟩ := aG_int g1
  dsimp only at b1 d1
  obtain ⟨x2, rfl, b2, d2⟩ := aG_int g2
  dsimp only at b2 d2
  obtain ⟨x3, rfl, b3, d3⟩ := aG_int g3
  dsimp only at b3 d3
  obtain ⟨x4, rfl, b4, d4⟩ := aG_int g4
  dsimp only at b4 d4
  obtain ⟨m1, m2, m3, m4⟩ := hM0
  obtain ⟨T, hT⟩ := rTe_ex hH b0 d0
  have f0 : rB2 K n p 241 [rR x0, rI x1, rI x2] σ := by
    obtain ⟨w, e6, e7⟩ := m4 (3859, [0, 1, 2]) (List.mem_of_getElem? (i := 0) rfl)
    obtain rfl : [rR x0, rI x1, rI x2] = w := Option.some.inj (show some [rR x0, rI x1, rI x2] = some w from e6)
    exact (rF_b (r := 3859) (by decide) rfl).mp e7
  obtain ⟨C, y, hY, f0⟩ := ro2_241.mp f0
  have f1 : rB2 K n p 245 [rR x0, rI x1, rI x2] σ := by
    obtain ⟨w, e6, e7⟩ := m4 (3923, [0, 1, 2]) (List.mem_of_getElem? (i := 1) rfl)
    obtain rfl : [rR x0, rI x1, rI x2] = w := Option.some.inj (show some [rR x0, rI x1, rI x2] = some w from e6)
    exact (rF_b (r := 3923) (by decide) rfl).mp e7
  have f1 := ro2_245.mp f1
  have f2 : rB2 K n p 237 [rR x0, rI x3, rI x4] σ := by
    obtain ⟨w, e6, e7⟩ := m4 (3795, [0, 3, 4]) (List.mem_of_getElem? (i := 2) rfl)
    obtain rfl : [rR x0, rI x3, rI x4] = w := Option.some.inj (show some [rR x0, rI x3, rI x4] = some w from e6)
    exact (rF_b (r := 3795) (by decide) rfl).mp e7
  have f2 := ro2_237.mp f2
  clear m1 m2 m3 m4
  have q0 : rB2 K n p 266 [rR x0, rI x1, rI x2, rI x3] σ := ro2_266.mpr ⟨C, y, hY, by
    obtain ⟨pa, mo, q0, z, cc, v, p1, p2, p3, p4, p5, ⟨p6, p7, g, p8, p9⟩, p10⟩ := f1
    obtain ⟨g', c', i1, i2, j, j0, j1, j2⟩ := f2 (by omega)
    obtain rfl := rRo_u p8 i1
    cases rOb_u p6 i2
    have h := p9 j j0 j1
    rw [j2] at h
    have e1 := rRy9_u p1 hY.1.1
    have e2 := rRy9_u p2 hY.1.2.1
    have e3 := (rSt9_u p3 hY.1.2.2.2.2).1
    rw [e1, e2, e3] at h
    exact h⟩
  exact ⟨p, fun _ => rfl, ⟨(fun q h => by cases h), fun q h => (by cases h), (fun f h => by cases h), (aAllc ⟨_, rfl, (rF_b (r := 4260) (by decide) rfl).mpr q0⟩ (fun f h => by cases h))⟩, [], List.mem_cons_self, fun f h => (by cases h)⟩
theorem rw_rcNK {K : Nat → Nat} {n : Nat} {JX : (Nat → jcell) → Prop} : aGho (rG K n) fa_T K n JX ag_rcNK := by
  refine aGho_of ⟨rfl, rfl⟩ ?_
  intro p σ ρ hH hX hA hM0
  have hG := aAG_of hA.1 (fun i e v he hv => (hA.2 i e v he hv).1)
  clear hA
  obtain ⟨v0, v1, v2, rfl, g0, g1, g2⟩ := rA_3 hG
  clear hG
  obtain ⟨x0, rfl, b0, d0⟩ := rG_ref (by decide) g0
  obtain ⟨x1, rfl, b1, d1⟩ := aG_int g1
  dsimp only at b1 d1
  obtain ⟨x2, rfl, b2, d2⟩ := aG_int g2
  dsimp only at b2 d2
  obtain ⟨m1, m2, m3, m4⟩ := hM0
  obtain ⟨T, hT⟩ := rTe_ex hH b0 d0
  have f0 : rB2 K n p 238 [rR x0, rI x1, rI x2] σ := by
    obtain ⟨w, e6, e7⟩ := m4 (3811, [0, 1, 2]) (List.mem_of_getElem? (i := 0) rfl)
    obtain rfl : [rR x0, rI x1, rI x2] = w := Option.some.inj (show some [rR x0, rI x1, rI x2] = some w from e6)
    exact (rF_b (r := 3811) (by decide) rfl).mp e7
  obtain ⟨C, y, hY, f0⟩ := ro2_238.mp f0
  clear m1 m2 m3 m4
  have q0 : rB2 K n p 241 [rR x0, rI x1, rI x2] σ := ro2_241.mpr ⟨C, y, hY, by
    exact ⟨b2, f0 b2⟩⟩
  exact ⟨p, fun _ => rfl, ⟨(fun q h => by cases h), fun q h => (by cases h), (fun f h => by cases h), (aAllc ⟨_, rfl, (rF_b (r := 3859) (by decide) rfl).mpr q0⟩ (fun f h => by cases h))⟩, [], List.mem_cons_self, fun f h => (by cases h)⟩
theorem rw_rcC3 {K : Nat → Nat} {n : Nat} {JX : (Nat → jcell) → Prop} : aGho (rG K n) fa_T K n JX ag_rcC3 := by
  refine aGho_of ⟨rfl, rfl⟩ ?_
  intro p σ ρ hH hX hA hM0
  have hG := aAG_of hA.1 (fun i e v he hv => (hA.2 i e v he hv).1)
  clear hA
  obtain ⟨v0, v1, v2, v3, rfl, g0, g1, g2, g3⟩ := rA_4 hG
  clear hG
  obtain ⟨x0, rfl, b0, d0⟩ := rG_ref (by decide) g0
  obtain ⟨x1, rfl, b1, d1⟩ := aG_int g1
  dsimp only at b1 d1
  obtain ⟨x2, rfl, b2, d2⟩ := aG_int g2
  dsimp only at b2 d2
  obtain ⟨x3, rfl, b3, d3⟩ := rG_ref (by decide) g3
  obtain ⟨m1, m2, m3, m4⟩ := hM0
  obtain ⟨T, hT⟩ := rTe_ex hH b0 d0
  obtain ⟨a0, c0, fs0, w0, e1, s0, t0, e4⟩ := m1 (0, 7, 3) (List.mem_of_getElem? (i := 0) rfl)
  obtain rfl : x0 = a0 := Sum.inl.inj (Option.some.inj (Sum.inr.inj (Sum.inr.inj (Option.some.inj (show some (rR x0) = some _ from e1)))))
  obtain rfl : rR x3 = w0 := Option.some.inj (show some (rR x3) = some w0 from e4)
  clear e1 e4
  obtain ⟨a, mc0, ty0, gc0, ic0, e1, sc0, jc0, e4, e5⟩ := m2 (3, ([(1, 1)], 0), 2) (List.mem_of_getElem? (i := 0) rfl)
  obtain rfl : x3 = a := Sum.inl.inj (Option.some.inj (Sum.inr.inj (Sum.inr.inj (Option.some.inj (show some (rR x3) = some _ from e1)))))
  obtain ⟨gc0, rfl⟩ : ∃ g, gc0 = .inl g := by
    rcases gc0 with g | g
    · exact ⟨g, rfl⟩
    · exact absurd (show some (rI x2) = some (.inr (.inl (g ic0))) from e5) (fun h => by cases h)
  have sc0 : σ x3 = .inl (ty0, mc0, .inl gc0) := sc0
  have ec0 : x2 = gc0 ic0 := Sum.inl.inj (Option.some.inj (show some (rI x2) = some _ from e5))
  have kc0 : (ic0 : Int) = (1 * x1.toInt + 0) + 0 := by
    obtain ⟨z, e6, e7⟩ := e4
    obtain rfl : (1 * x1.toInt + 0) = z := Option.some.inj (show some (1 * x1.toInt + 0) = some z from e6)
    exact e7
  clear e1 e4 e5
  clear m1 m2 m3 m4
  have q0 : rB2 K n p 264 [rR x0, rI x1] σ := ro2_264.mpr (by
    obtain ⟨g, r⟩ := rRo_ex (ko := 62) (f := 7) (kr := 65) (len := 2) hH rfl rfl rfl (by decide) b0 d0
    have e := rRo_c (i := ic0) r s0 t0 sc0 ec0
    exact ⟨b1, g, r, by rw [show x1.toInt.toNat = ic0 by omega, e]; omega⟩)
  exact ⟨p, fun _ => rfl, ⟨(fun q h => by cases h), fun q h => (by cases h), (fun f h => by cases h), (aAllc ⟨_, rfl, (rF_b (r := 4226) (by decide) rfl).mpr q0⟩ (fun f h => by cases h))⟩, [], List.mem_cons_self, fun f h => (by cases h)⟩
theorem rw_rvTRh {K : Nat → Nat} {n : Nat} {JX : (Nat → jcell) → Prop} : aGho (rG K n) fa_T K n JX ag_rvTRh := by
  refine aGho_of ⟨rfl, rfl⟩ ?_
  intro p σ ρ hH hX hA hM0
  have hG := aAG_of hA.1 (fun i e v he hv => (hA.2 i e v he hv).1)
  clear hA
  obtain ⟨v0, rfl, g0⟩ := rA_1 hG
  clear hG
  obtain ⟨x0, rfl, b0, d0⟩ := aG_int g0
  dsimp only at b0 d0
  obtain ⟨m1, m2, m3, m4⟩ := hM0
  clear m1 m2 m3 m4
  have hd : (0 ≤ (1 * x0.toInt + 0) + 0 ∧ 0 ≤ (-1 * x0.toInt + 0) + 0) ∨ (0 ≤ (1 * x0.toInt + 0) + -1) := by
    omega
  rcases hd with ⟨w0, w1⟩ | w0
  · exact ⟨p, fun _ => rfl, ⟨(fun q h => by cases h), fun q h => (by cases h), (fun f h => by cases h), (fun f h => by cases h)⟩, _, List.mem_of_getElem? (i := 0) rfl, (aAllc ⟨_, rfl, w0⟩ (aAllc ⟨_, rfl, w1⟩ (fun f h => by cases h)))⟩
  · exact ⟨p, fun _ => rfl, ⟨(fun q h => by cases h), fun q h => (by cases h), (fun f h => by cases h), (fun f h => by cases h)⟩, _, List.mem_of_getElem? (i := 1) rfl, (aAllc ⟨_, rfl, w0⟩ (fun f h => by cases h))⟩
theorem rw_rdF {K : Nat → Nat} {n : Nat} {JX : (Nat → jcell) → Prop} : aGho (rG K n) fa_T K n JX ag_rdF := by
  refine aGho_of ⟨rfl, rfl⟩ ?_
  intro p σ ρ hH hX hA hM0
  have hG := aAG_of hA.1 (fun i e v he hv => (hA.2 i e v he hv).1)
  clear hA
  obtain ⟨v0, v1, v2, v3, v4, v5, v6, rfl, g0, g1, g2, g3, g4, g5, g6⟩ := rA_7 hG
  clear hG
  obtain ⟨x0, rfl, b0, d0⟩ := rG_ref (by decide) g0
  obtain ⟨x1, rfl, b1, d1⟩ := aG_int g1
  dsimp only at b1 d1
  obtain ⟨x2, rfl, b2, d2⟩ := aG_int g2
  dsimp only at b2 d2
  obtain ⟨x3, rfl, b3, d3⟩ := aG_int g3
  dsimp only at b3 d3
  obtain ⟨x4, rfl, b4, d4⟩ := aG_int g4
  dsimp only at b4 d4
  obtain ⟨x5, rfl, b5, d5⟩ := rG_ref (by decide) g5
  obtain ⟨x6, rfl, b6, d6⟩ := rG_ref (by decide) g6
  obtain ⟨m1, m2, m3, m4⟩ := hM0
  obtain ⟨T, hT⟩ := rTe_ex hH b0 d0
  obtain ⟨a0, c0, fs0, w0, e1, s0, t0, e4⟩ := m1 (0, 10, 5) (List.mem_of_getElem? (i := 0) rfl)
  obtain rfl : x0 = a0 := Sum.inl.inj (Option.some.inj (Sum.inr.inj (Sum.inr.inj (Option.some.inj (show some (rR x0) = some _ from e1)))))
  obtain rfl : rR x5 = w0 := Option.some.inj (show some (rR x5) = some w0 from e4)
  clear e1 e4
  obtain ⟨a1, c1, fs1, w1, e1, s1, t1, e4⟩ := m1 (0, 8, 6) (List.mem_of_getElem? (i := 1) rfl)
  obtain rfl : x0 = a1 := Sum.inl.inj (Option.some.inj (Sum.inr.inj (Sum.inr.inj (Option.some.inj (show some (rR x0) = some _ from e1)))))
  obtain rfl : rR x6 = w1 := Option.some.inj (show some (rR x6) = some w1 from e4)
  clear e1 e4
  obtain ⟨a, mc0, ty0, gc0, ic0, e1, sc0, jc0, e4, e5⟩ := m2 (5, ([(1, 301), (3, 1)], 0), 4) (List.mem_of_getElem? (i := 0) rfl)
  obtain rfl : x5 = a := Sum.inl.inj (Option.some.inj (Sum.inr.inj (Sum.inr.inj (Option.some.inj (show some (rR x5) = some _ from e1)))))
  obtain ⟨gc0, rfl⟩ : ∃ g, gc0 = .inl g := by
    rcases gc0 with g | g
    · exact ⟨g, rfl⟩
    · exact absurd (show some (rI x4) = some (.inr (.inl (g ic0))) from e5) (fun h => by cases h)
  have sc0 : σ x5 = .inl (ty0, mc0, .inl gc0) := sc0
  have ec0 : x4 = gc0 ic0 := Sum.inl.inj (Option.some.inj (show some (rI x4) = some _ from e5))
  have kc0 : (ic0 : Int) = (301 * x1.toInt + (1 * x3.toInt + 0)) + 0 := by
    obtain ⟨z, e6, e7⟩ := e4
    obtain rfl : (301 * x1.toInt + (1 * x3.toInt + 0)) = z := Option.some.inj (show some (301 * x1.toInt + (1 * x3.toInt + 0)) = some z from e6)
    exact e7
  clear e1 e4 e5
  obtain ⟨a, mc1, ty1, gc1, ic1, e1, sc1, jc1, e4, e5⟩ := m2 (6, ([(1, 301), (2, 1)], 0), 3) (List.mem_of_getElem? (i := 1) rfl)
  obtain rfl : x6 = a := Sum.inl.inj (Option.some.inj (Sum.inr.inj (Sum.inr.inj (Option.some.inj (show some (rR x6) = some _ from e1)))))
  obtain ⟨gc1, rfl⟩ : ∃ g, gc1 = .inl g := by
    rcases gc1 with g | g
    · exact ⟨g, rfl⟩
    · exact absurd (show some (rI x3) = some (.inr (.inl (g ic1))) from e5) (fun h => by cases h)
  have sc1 : σ x6 = .inl (ty1, mc1, .inl gc1) := sc1
  have ec1 : x3 = gc1 ic1 := Sum.inl.inj (Option.some.inj (show some (rI x3) = some _ from e5))
  have kc1 : (ic1 : Int) = (301 * x1.toInt + (1 * x2.toInt + 0)) + 0 := by
    obtain ⟨z, e6, e7⟩ := e4
    obtain rfl : (301 * x1.toInt + (1 * x2.toInt + 0)) = z := Option.some.inj (show some (301 * x1.toInt + (1 * x2.toInt + 0)) = some z from e6)
    exact e7
  clear e1 e4 e5
  have f0 : rB2 K n p 241 [rR x0, rI x1, rI x2] σ := by
    obtain ⟨w, e6, e7⟩ := m4 (3859, [0, 1, 2]) (List.mem_of_getElem? (i := 0) rfl)
    obtain rfl : [rR x0, rI x1, rI x2] = w := Option.some.inj (show some [rR x0, rI x1, rI x2] = some w from e6)
    exact (rF_b (r := 3859) (by decide) rfl).mp e7
  obtain ⟨C, y, hY, f0⟩ := ro2_241.mp f0
  clear m1 m2 m3 m4
  have y0 : y.2.2.1 x3.toInt = x4.toInt := rSc_c hY.1.2.2.1 s0 t0 sc0 ec0 (by omega)
  have y1 : y.1 x2.toInt = x3.toInt := rSc_c hY.1.1 s1 t1 sc1 ec1 (by omega)
  have hpr := hY.2.2.2.1 x2.toInt b2 f0.2
  obtain ⟨L, n1, n2, n3, n4⟩ := rTr_L hY.2.2 hpr.1 (by omega)
  have hm := (n3 x2.toInt).mpr ⟨b2, f0.2, rfl⟩
  have hF : 1 ≤ x4.toInt ∧ x4.toInt ≤ C := by
    rw [← y0, ← y1]
    match L, n2, n3, hm with
    | [], _, _, hm => cases hm
    | d :: r, n2, n3, _ =>
      rw [show y.2.2.1 (y.1 x2.toInt) = d from n2.1]
      have := (n3 d).mp List.mem_cons_self
      omega
  have r0 : 0 ≤ (1 * x4.toInt + 0) + -1 := by
    omega
  have q0 : rB2 K n p 276 [rR x0, rI x1, rI x2, rI x4] σ := ro2_276.mpr ⟨C, y, hY, by
    exact ⟨b2, f0.2, by rw [y1, y0]⟩⟩
  have q1 : rB2 K n p 241 [rR x0, rI x1, rI x4] σ := ro2_241.mpr ⟨C, y, hY, by
    exact ⟨by omega, hF.2⟩⟩
  exact ⟨p, fun _ => rfl, ⟨(fun q h => by cases h), fun q h => (by cases h), (aAllc ⟨_, rfl, r0⟩ (fun f h => by cases h)), (aAllc ⟨_, rfl, (rF_b (r := 4420) (by decide) rfl).mpr q0⟩ (aAllc ⟨_, rfl, (rF_b (r := 3859) (by decide) rfl).mpr q1⟩ (fun f h => by cases h)))⟩, [], List.mem_cons_self, fun f h => (by cases h)⟩
theorem rw_rdUP {K : Nat → Nat} {n : Nat} {JX : (Nat → jcell) → Prop} : aGho (rG K n) fa_T K n JX ag_rdUP := by
  refine aGho_of ⟨rfl, rfl⟩ ?_
  intro p σ ρ hH hX hA hM0
  have hG := aAG_of hA.1 (fun i e v he hv => (hA.2 i e v he hv).1)
  clear hA
  obtain ⟨v0, v1, v2, v3, v4, rfl, g0, g1, g2, g3, g4⟩ := rA_5 hG
  clear hG
  obtain ⟨x0, rfl, b0, d0⟩ := rG_ref (by decide) g0
  obtain ⟨x1, rfl, b1, d1⟩ := aG_int g1
  dsimp only at b1 d1
  obtain ⟨x2, rfl, b2, d2⟩ := aG_int g2
  dsimp only at b2 d2
  obtain ⟨x3, rfl, b3, d3⟩ := aG_int g3
  dsimp only at b3 d3
  obtain ⟨x4, rfl, b4, d4⟩ := rG_ref (by decide) g4
  obtain ⟨m1, m2, m3, m4⟩ := hM0
  obtain ⟨T, hT⟩ := rTe_ex hH b0 d0
  obtain ⟨a0, c0, fs0, w0, e1, s0, t0, e4⟩ := m1 (0, 8, 4) (List.mem_of_getElem? (i := 0) rfl)
  obtain rfl : x0 = a0 := Sum.inl.inj (Option.some.inj (Sum.inr.inj (Sum.inr.inj (Option.some.inj (show some (rR x0) = some _ from e1)))))
  obtain rfl : rR x4 = w0 := Option.some.inj (show some (rR x4) = some w0 from e4)
  clear e1 e4
  obtain ⟨a, mc0, ty0, gc0, ic0, e1, sc0, jc0, e4, e5⟩ := m2 (4, ([(1, 301), (2, 1)], 0), 3) (List.mem_of_getElem? (i := 0) rfl)
  obtain rfl : x4 = a := Sum.inl.inj (Option.some.inj (Sum.inr.inj (Sum.inr.inj (Option.some.inj (show some (rR x4) = some _ from e1)))))
  obtain ⟨gc0, rfl⟩ : ∃ g, gc0 = .inl g := by
    rcases gc0 with g | g
    · exact ⟨g, rfl⟩
    · exact absurd (show some (rI x3) = some (.inr (.inl (g ic0))) from e5) (fun h => by cases h)
  have sc0 : σ x4 = .inl (ty0, mc0, .inl gc0) := sc0
  have ec0 : x3 = gc0 ic0 := Sum.inl.inj (Option.some.inj (show some (rI x3) = some _ from e5))
  have kc0 : (ic0 : Int) = (301 * x1.toInt + (1 * x2.toInt + 0)) + 0 := by
    obtain ⟨z, e6, e7⟩ := e4
    obtain rfl : (301 * x1.toInt + (1 * x2.toInt + 0)) = z := Option.some.inj (show some (301 * x1.toInt + (1 * x2.toInt + 0)) = some z from e6)
    exact e7
  clear e1 e4 e5
  have f0 : rB2 K n p 241 [rR x0, rI x1, rI x2] σ := by
    obtain ⟨w, e6, e7⟩ := m4 (3859, [0, 1, 2]) (List.mem_of_getElem? (i := 0) rfl)
    obtain rfl : [rR x0, rI x1, rI x2] = w := Option.some.inj (show some [rR x0, rI x1, rI x2] = some w from e6)
    exact (rF_b (r := 3859) (by decide) rfl).mp e7
  obtain ⟨C, y, hY, f0⟩ := ro2_241.mp f0
  clear m1 m2 m3 m4
  have y0 : y.1 x2.toInt = x3.toInt := rSc_c hY.1.1 s0 t0 sc0 ec0 (by omega)
  have q0 : rB2 K n p 243 [rR x0, rI x1, rI x2, rI x3] σ := ro2_243.mpr ⟨C, y, hY, by
    exact y0⟩
  exact ⟨p, fun _ => rfl, ⟨(fun q h => by cases h), fun q h => (by cases h), (fun f h => by cases h), (aAllc ⟨_, rfl, (rF_b (r := 3892) (by decide) rfl).mpr q0⟩ (fun f h => by cases h))⟩, [], List.mem_cons_self, fun f h => (by cases h)⟩
theorem rw_rdk {K : Nat → Nat} {n : Nat} {JX : (Nat → jcell) → Prop} : aGho (rG K n) fa_T K n JX ag_rdk := by
  refine aGho_of ⟨rfl, rfl⟩ ?_
  intro p σ ρ hH hX hA hM0
  have hG := aAG_of hA.1 (fun i e v he hv => (hA.2 i e v he hv).1)
  clear hA
  obtain ⟨v0, v1, v2, v3, v4, v5, rfl, g0, g1, g2, g3, g4, g5⟩ := rA_6 hG
  clear hG
  obtain ⟨x0, rfl, b0, d0⟩ := rG_ref (by decide) g0
  obtain ⟨x1, rfl, b1, d1⟩ := aG_int g1
  dsimp only at b1 d1
  obtain ⟨x2, rfl, b2, d2⟩ := aG_int g2
  dsimp only at b2 d2
  obtain ⟨x3, rfl, b3, d3⟩ := aG_int g3
  dsimp only at b3 d3
  obtain ⟨x4, rfl, b4, d4⟩ := aG_int g4
  dsimp only at b4 d4
  obtain ⟨x5, rfl, b5, d5⟩ := rG_ref (by decide) g5
  obtain ⟨m1, m2, m3, m4⟩ := hM0
  obtain ⟨T, hT⟩ := rTe_ex hH b0 d0
  obtain ⟨a0, c0, fs0, w0, e1, s0, t0, e4⟩ := m1 (0, 7, 5) (List.mem_of_getElem? (i := 0) rfl)
  obtain rfl : x0 = a0 := Sum.inl.inj (Option.some.inj (Sum.inr.inj (Sum.inr.inj (Option.some.inj (show some (rR x0) = some _ from e1)))))
  obtain rfl : rR x5 = w0 := Option.some.inj (show some (rR x5) = some w0 from e4)
  clear e1 e4
  obtain ⟨a, mc0, ty0, gc0, ic0, e1, sc0, jc0, e4, e5⟩ := m2 (5, ([(1, 1)], 0), 4) (List.mem_of_getElem? (i := 0) rfl)
  obtain rfl : x5 = a := Sum.inl.inj (Option.some.inj (Sum.inr.inj (Sum.inr.inj (Option.some.inj (show some (rR x5) = some _ from e1)))))
  obtain ⟨gc0, rfl⟩ : ∃ g, gc0 = .inl g := by
    rcases gc0 with g | g
    · exact ⟨g, rfl⟩
    · exact absurd (show some (rI x4) = some (.inr (.inl (g ic0))) from e5) (fun h => by cases h)
  have sc0 : σ x5 = .inl (ty0, mc0, .inl gc0) := sc0
  have ec0 : x4 = gc0 ic0 := Sum.inl.inj (Option.some.inj (show some (rI x4) = some _ from e5))
  have kc0 : (ic0 : Int) = (1 * x1.toInt + 0) + 0 := by
    obtain ⟨z, e6, e7⟩ := e4
    obtain rfl : (1 * x1.toInt + 0) = z := Option.some.inj (show some (1 * x1.toInt + 0) = some z from e6)
    exact e7
  clear e1 e4 e5
  have l0 : 0 ≤ (1 * x4.toInt + (-1 * x3.toInt + 0)) + 0 := by
    obtain ⟨z, e6, e7⟩ := m3 ([(4, 1), (3, -1)], 0) (List.mem_of_getElem? (i := 0) rfl)
    obtain rfl : (1 * x4.toInt + (-1 * x3.toInt + 0)) = z := Option.some.inj (show some (1 * x4.toInt + (-1 * x3.toInt + 0)) = some z from e6)
    exact e7
  have f0 : rB2 K n p 241 [rR x0, rI x1, rI x2] σ := by
    obtain ⟨w, e6, e7⟩ := m4 (3859, [0, 1, 2]) (List.mem_of_getElem? (i := 0) rfl)
    obtain rfl : [rR x0, rI x1, rI x2] = w := Option.some.inj (show some [rR x0, rI x1, rI x2] = some w from e6)
    exact (rF_b (r := 3859) (by decide) rfl).mp e7
  obtain ⟨C, y, hY, f0⟩ := ro2_241.mp f0
  clear m1 m2 m3 m4
  obtain ⟨gC, rC, eC⟩ := hY.2.1
  have e0 := rRo_c (i := ic0) rC s0 t0 sc0 ec0
  rw [show ic0 = x1.toInt.toNat by omega, eC] at e0
  have q0 : rB2 K n p 241 [rR x0, rI x1, rI x3] σ := ro2_241.mpr ⟨C, y, hY, by
    omega⟩
  exact ⟨p, fun _ => rfl, ⟨(fun q h => by cases h), fun q h => (by cases h), (fun f h => by cases h), (aAllc ⟨_, rfl, (rF_b (r := 3859) (by decide) rfl).mpr q0⟩ (fun f h => by cases h))⟩, [], List.mem_cons_self, fun f h => (by cases h)⟩
theorem rw_rdB0 {K : Nat → Nat} {n : Nat} {JX : (Nat → jcell) → Prop} : aGho (rG K n) fa_T K n JX ag_rdB0 := by
  refine aGho_n1 (b := (0, 301)) rfl rfl ?_
  intro p σ ρ hH hX hA hM0
  have hG := aAG_of hA.1 (fun i e v he hv => (hA.2 i e v he hv).1)
  clear hA
  obtain ⟨v0, v1, v2, v3, rfl, g0, g1, g2, g3⟩ := rA_4 hG
  clear hG
  obtain ⟨x0, rfl, b0, d0⟩ := rG_ref (by decide) g0
  obtain ⟨x1, rfl, b1, d1⟩ := aG_int g1
  dsimp only at b1 d1
  obtain ⟨x2, rfl, b2, d2⟩ := aG_int g2
  dsimp only at b2 d2
  obtain ⟨x3, rfl, b3, d3⟩ := aG_int g3
  dsimp only at b3 d3
  obtain ⟨m1, m2, m3, m4⟩ := hM0
  obtain ⟨T, hT⟩ := rTe_ex hH b0 d0
  have f0 : rB2 K n p 276 [rR x0, rI x1, rI x2, rI x3] σ := by
    obtain ⟨w, e6, e7⟩ := m4 (4420, [0, 1, 2, 3]) (List.mem_of_getElem? (i := 0) rfl)
    obtain rfl : [rR x0, rI x1, rI x2, rI x3] = w := Option.some.inj (show some [rR x0, rI x1, rI x2, rI x3] = some w from e6)
    exact (rF_b (r := 4420) (by decide) rfl).mp e7
  obtain ⟨C, y, hY, f0⟩ := ro2_276.mp f0
  have f1 : rB2 K n p 225 [rI x2, rI x3] σ := by
    obtain ⟨w, e6, e7⟩ := m4 (3602, [2, 3]) (List.mem_of_getElem? (i := 1) rfl)
    obtain rfl : [rI x2, rI x3] = w := Option.some.inj (show some [rI x2, rI x3] = some w from e6)
    exact (rF_b (r := 3602) (by decide) rfl).mp e7
  have f1 := ro2_225.mp f1
  clear m1 m2 m3 m4
  have hpr := hY.2.2.2.1 x2.toInt b2 f0.2.1
  obtain ⟨L, n1, n2, n3, n4⟩ := rTr_L hY.2.2 hpr.1 (by omega)
  have hm := (n3 x2.toInt).mpr ⟨b2, f0.2.1, rfl⟩
  obtain ⟨B, D, eL⟩ : ∃ B D, L = x3.toInt :: (B ++ x2.toInt :: D) := by
    match L, n2, hm with
    | [], _, hm => cases hm
    | d :: r, n2, hm =>
      have e : y.2.2.1 (y.1 x2.toInt) = d := n2.1
      have e3 : d = x3.toInt := by rw [← e]; exact f0.2.2
      rcases List.mem_cons.mp hm with h | h
      · exact absurd (h.trans e3) f1
      · obtain ⟨B, D, rfl⟩ := List.append_of_mem h
        exact ⟨B, D, by rw [e3]⟩
  have l4 : L.length = B.length + D.length + 2 := by
    rw [eL, List.length_cons, List.length_append, List.length_cons]
    omega
  obtain ⟨x4, e4⟩ := rI32 (z := (B.length : Int)) (by omega) (by omega)
  have b4 : 0 ≤ x4.toInt := by omega
  have d4 : x4.toInt ≤ 301 := by omega
  have q0 : rB2 K n p 277 [rR x0, rI x1, rI x2, rI x3, rI x4] σ := ro2_277.mpr ⟨C, y, hY, by
    exact ⟨f0.1, f0.2.1, [], B, D, by rw [List.nil_append]; rw [← eL]; exact n2, fun c hc => by rw [List.nil_append, ← eL] at hc; have := (n3 c).mp hc; omega, by omega⟩⟩
  exact ⟨p, x4, fun _ => rfl, b4, d4, ⟨(fun q h => by cases h), fun q h => (by cases h), (fun f h => by cases h), (aAllc ⟨_, rfl, (rF_b (r := 4437) (by decide) rfl).mpr q0⟩ (fun f h => by cases h))⟩, [], List.mem_cons_self, fun f h => (by cases h)⟩
theorem rw_rdBn {K : Nat → Nat} {n : Nat} {JX : (Nat → jcell) → Prop} : aGho (rG K n) fa_T K n JX ag_rdBn := by
  refine aGho_n1 (b := (0, 301)) rfl rfl ?_
  intro p σ ρ hH hX hA hM0
  have hG := aAG_of hA.1 (fun i e v he hv => (hA.2 i e v he hv).1)
  clear hA
  obtain ⟨v0, v1, v2, v3, v4, v5, v6, rfl, g0, g1, g2, g3, g4, g5, g6⟩ := rA_7 hG
  clear hG
  obtain ⟨x0, rfl, b0, d0⟩ := rG_ref (by decide) g0
  obtain ⟨x1, rfl, b1, d1⟩ := aG_int g1
  dsimp only at b1 d1
  obtain ⟨x2, rfl, b2, d2⟩ := aG_int g2
  dsimp only at b2 d2
  obtain ⟨x3, rfl, b3, d3⟩ := aG_int g3
  dsimp only at b3 d3
  obtain ⟨x4, rfl, b4, d4⟩ := aG_int g4
  dsimp only at b4 d4
  obtain ⟨x5, rfl, b5, d5⟩ := aG_int g5
  dsimp only at b5 d5
  obtain ⟨x6, rfl, b6, d6⟩ := rG_ref (by decide) g6
  obtain ⟨m1, m2, m3, m4⟩ := hM0
  obtain ⟨T, hT⟩ := rTe_ex hH b0 d0
  obtain ⟨a0, c0, fs0, w0, e1, s0, t0, e4⟩ := m1 (0, 11, 6) (List.mem_of_getElem? (i := 0) rfl)
  obtain rfl : x0 = a0 := Sum.inl.inj (Option.some.inj (Sum.inr.inj (Sum.inr.inj (Option.some.inj (show some (rR x0) = some _ from e1)))))
  obtain rfl : rR x6 = w0 := Option.some.inj (show some (rR x6) = some w0 from e4)
  clear e1 e4
  obtain ⟨a, mc0, ty0, gc0, ic0, e1, sc0, jc0, e4, e5⟩ := m2 (6, ([(1, 301), (3, 1)], 0), 5) (List.mem_of_getElem? (i := 0) rfl)
  obtain rfl : x6 = a := Sum.inl.inj (Option.some.inj (Sum.inr.inj (Sum.inr.inj (Option.some.inj (show some (rR x6) = some _ from e1)))))
  obtain ⟨gc0, rfl⟩ : ∃ g, gc0 = .inl g := by
    rcases gc0 with g | g
    · exact ⟨g, rfl⟩
    · exact absurd (show some (rI x5) = some (.inr (.inl (g ic0))) from e5) (fun h => by cases h)
  have sc0 : σ x6 = .inl (ty0, mc0, .inl gc0) := sc0
  have ec0 : x5 = gc0 ic0 := Sum.inl.inj (Option.some.inj (show some (rI x5) = some _ from e5))
  have kc0 : (ic0 : Int) = (301 * x1.toInt + (1 * x3.toInt + 0)) + 0 := by
    obtain ⟨z, e6, e7⟩ := e4
    obtain rfl : (301 * x1.toInt + (1 * x3.toInt + 0)) = z := Option.some.inj (show some (301 * x1.toInt + (1 * x3.toInt + 0)) = some z from e6)
    exact e7
  clear e1 e4 e5
  have f0 : rB2 K n p 277 [rR x0, rI x1, rI x2, rI x3, rI x4] σ := by
    obtain ⟨w, e6, e7⟩ := m4 (4437, [0, 1, 2, 3, 4]) (List.mem_of_getElem? (i := 0) rfl)
    obtain rfl : [rR x0, rI x1, rI x2, rI x3, rI x4] = w := Option.some.inj (show some [rR x0, rI x1, rI x2, rI x3, rI x4] = some w from e6)
    exact (rF_b (r := 4437) (by decide) rfl).mp e7
  obtain ⟨C, y, hY, f0⟩ := ro2_277.mp f0
  have f1 : rB2 K n p 225 [rI x5, rI x2] σ := by
    obtain ⟨w, e6, e7⟩ := m4 (3602, [5, 2]) (List.mem_of_getElem? (i := 1) rfl)
    obtain rfl : [rI x5, rI x2] = w := Option.some.inj (show some [rI x5, rI x2] = some w from e6)
    exact (rF_b (r := 3602) (by decide) rfl).mp e7
  have f1 := ro2_225.mp f1
  clear m1 m2 m3 m4
  have y0 : y.2.2.2.1 x3.toInt = x5.toInt := rSc_c hY.1.2.2.2.1 s0 t0 sc0 ec0 (by omega)
  obtain ⟨k1, k2, A, B, D, k3, k4, k5⟩ := f0
  have hm := rCn_mv k3
  obtain ⟨d, r, rfl⟩ : ∃ d r, B = d :: r := by
    match B, hm with
    | [], hm =>
      have e : y.2.2.2.1 x3.toInt = x2.toInt := hm.1
      exact absurd (y0.symm.trans e) f1
    | d :: r, _ => exact ⟨d, r, rfl⟩
  have l0 : y.2.2.2.1 x3.toInt = d := hm.1
  have l1 : d = x5.toInt := by omega
  have hd1 := k4 d (List.mem_append_right _ (List.mem_cons_of_mem _ List.mem_cons_self))
  have l3 : (d :: r).length = r.length + 1 := rfl
  obtain ⟨x7, e7⟩ := rI32 (z := (r.length : Int)) (by omega) (by omega)
  have b7 : 0 ≤ x7.toInt := by omega
  have d7 : x7.toInt ≤ 301 := by omega
  have r0 : 0 ≤ (1 * x5.toInt + 0) + -1 := by
    omega
  have r1 : 0 ≤ (1 * x4.toInt + (-1 * x7.toInt + 0)) + -1 := by
    omega
  have q0 : rB2 K n p 277 [rR x0, rI x1, rI x2, rI x5, rI x7] σ := ro2_277.mpr ⟨C, y, hY, by
    exact ⟨k1, k2, A ++ [x3.toInt], r, D, by rw [List.append_assoc]; show rCn _ _ (A ++ x3.toInt :: x5.toInt :: (r ++ x2.toInt :: D)); rw [← l1]; exact k3, fun c hc => k4 c (by rw [List.append_assoc] at hc; rw [l1]; exact hc), by omega⟩⟩
  exact ⟨p, x7, fun _ => rfl, b7, d7, ⟨(fun q h => by cases h), fun q h => (by cases h), (aAllc ⟨_, rfl, r0⟩ (aAllc ⟨_, rfl, r1⟩ (fun f h => by cases h))), (aAllc ⟨_, rfl, (rF_b (r := 4437) (by decide) rfl).mpr q0⟩ (fun f h => by cases h))⟩, [], List.mem_cons_self, fun f h => (by cases h)⟩
theorem rw_rdNEu {K : Nat → Nat} {n : Nat} {JX : (Nat → jcell) → Prop} : aGho (rG K n) fa_T K n JX ag_rdNEu := by
  refine aGho_of ⟨rfl, rfl⟩ ?_
  intro p σ ρ hH hX hA hM0
  have hG := aAG_of hA.1 (fun i e v he hv => (hA.2 i e v he hv).1)
  clear hA
  obtain ⟨v0, v1, rfl, g0, g1⟩ := rA_2 hG
  clear hG
  obtain ⟨x0, rfl, b0, d0⟩ := aG_int g0
  dsimp only at b0 d0
  obtain ⟨x1, rfl, b1, d1⟩ := aG_int g1
  dsimp only at b1 d1
  obtain ⟨m1, m2, m3, m4⟩ := hM0
  have l0 : 0 ≤ (1 * x0.toInt + (-1 * x1.toInt + 0)) + -1 := by
    obtain ⟨z, e6, e7⟩ := m3 ([(0, 1), (1, -1)], -1) (List.mem_of_getElem? (i := 0) rfl)
    obtain rfl : (1 * x0.toInt + (-1 * x1.toInt + 0)) = z := Option.some.inj (show some (1 * x0.toInt + (-1 * x1.toInt + 0)) = some z from e6)
    exact e7
  clear m1 m2 m3 m4
  have q0 : rB2 K n p 225 [rI x0, rI x1] σ := ro2_225.mpr (by
    omega)
  exact ⟨p, fun _ => rfl, ⟨(fun q h => by cases h), fun q h => (by cases h), (fun f h => by cases h), (aAllc ⟨_, rfl, (rF_b (r := 3602) (by decide) rfl).mpr q0⟩ (fun f h => by cases h))⟩, [], List.mem_cons_self, fun f h => (by cases h)⟩
theorem rw_rdNEd {K : Nat → Nat} {n : Nat} {JX : (Nat → jcell) → Prop} : aGho (rG K n) fa_T K n JX ag_rdNEd := by
  refine aGho_of ⟨rfl, rfl⟩ ?_
  intro p σ ρ hH hX hA hM0
  have hG := aAG_of hA.1 (fun i e v he hv => (hA.2 i e v he hv).1)
  clear hA
  obtain ⟨v0, v1, rfl, g0, g1⟩ := rA_2 hG
  clear hG
  obtain ⟨x0, rfl, b0, d0⟩ := aG_int g0
  dsimp only at b0 d0
  obtain ⟨x1, rfl, b1, d1⟩ := aG_int g1
  dsimp only at b1 d1
  obtain ⟨m1, m2, m3, m4⟩ := hM0
  have l0 : 0 ≤ (-1 * x0.toInt + (1 * x1.toInt + 0)) + -1 := by
    obtain ⟨z, e6, e7⟩ := m3 ([(0, -1), (1, 1)], -1) (List.mem_of_getElem? (i := 0) rfl)
    obtain rfl : (-1 * x0.toInt + (1 * x1.toInt + 0)) = z := Option.some.inj (show some (-1 * x0.toInt + (1 * x1.toInt + 0)) = some z from e6)
    exact e7
  clear m1 m2 m3 m4
  have q0 : rB2 K n p 225 [rI x0, rI x1] σ := ro2_225.mpr (by
    omega)
  exact ⟨p, fun _ => rfl, ⟨(fun q h => by cases h), fun q h => (by cases h), (fun f h => by cases h), (aAllc ⟨_, rfl, (rF_b (r := 3602) (by decide) rfl).mpr q0⟩ (fun f h => by cases h))⟩, [], List.mem_cons_self, fun f h => (by cases h)⟩
theorem rw_rdS1 {K : Nat → Nat} {n : Nat} {JX : (Nat → jcell) → Prop} : aGho (rG K n) fa_T K n JX ag_rdS1 := by
  refine aGho_of ⟨rfl, rfl⟩ ?_
  intro p σ ρ hH hX hA hM0
  have hG := aAG_of hA.1 (fun i e v he hv => (hA.2 i e v he hv).1)
  clear hA
  obtain ⟨v0, v1, v2, v3, v4, v5, v6, v7, v8, v9, v10, rfl, g0, g1, g2, g3, g4, g5, g6, g7, g8, g9, g10⟩ := rA_11 hG
  clear hG
  obtain ⟨x0, rfl, b0, d0⟩ := rG_ref (by decide) g0
  obtain ⟨x1, rfl, b1, d1⟩ := rG_ref (by decide) g1
  obtain ⟨x2, rfl, b2, d2⟩ := aG_int g2
  dsimp only at b2 d2
  obtain ⟨x3, rfl, b3, d3⟩ := aG_int g3
  dsimp only at b3 d3
  obtain ⟨x4, rfl, b4, d4⟩ := aG_int g4
  dsimp only at b4 d4
  obtain ⟨x5, rfl, b5, d5⟩ := aG_int g5
  dsimp only at b5 d5
  obtain ⟨x6, rfl, b6, d6⟩ := aG_int g6
  dsimp only at b6 d6
  obtain ⟨x7, rfl, b7, d7⟩ := aG_int g7
  dsimp only at b7 d7
  obtain ⟨x8, rfl, b8, d8⟩ := aG_int g8
  dsimp only at b8 d8
  obtain ⟨x9, rfl, b9, d9⟩ := aG_int g9
  dsimp only at b9 d9
  obtain ⟨x10, rfl, b10, d10⟩ := aG_int g10
  dsimp only at b10 d10
  obtain ⟨m1, m2, m3, m4⟩ := hM0
  obtain ⟨T, hT⟩ := rTe_ex hH b0 d0
  obtain ⟨a0, c0, fs0, w0, e1, s0, t0, e4⟩ := m1 (0, 11, 1) (List.mem_of_getElem? (i := 0) rfl)
  obtain rfl : x0 = a0 := Sum.inl.inj (Option.some.inj (Sum.inr.inj (Sum.inr.inj (Option.some.inj (show some (rR x0) = some _ from e1)))))
  obtain rfl : rR x1 = w0 := Option.some.inj (show some (rR x1) = some w0 from e4)
  clear e1 e4
  obtain ⟨a, mc0, ty0, gc0, ic0, e1, sc0, jc0, e4, e5⟩ := m2 (1, ([(2, 301), (6, 1)], 0), 8) (List.mem_of_getElem? (i := 0) rfl)
  obtain rfl : x1 = a := Sum.inl.inj (Option.some.inj (Sum.inr.inj (Sum.inr.inj (Option.some.inj (show some (rR x1) = some _ from e1)))))
  obtain ⟨gc0, rfl⟩ : ∃ g, gc0 = .inl g := by
    rcases gc0 with g | g
    · exact ⟨g, rfl⟩
    · exact absurd (show some (rI x8) = some (.inr (.inl (g ic0))) from e5) (fun h => by cases h)
  have sc0 : σ x1 = .inl (ty0, mc0, .inl gc0) := sc0
  have ec0 : x8 = gc0 ic0 := Sum.inl.inj (Option.some.inj (show some (rI x8) = some _ from e5))
  have kc0 : (ic0 : Int) = (301 * x2.toInt + (1 * x6.toInt + 0)) + 0 := by
    obtain ⟨z, e6, e7⟩ := e4
    obtain rfl : (301 * x2.toInt + (1 * x6.toInt + 0)) = z := Option.some.inj (show some (301 * x2.toInt + (1 * x6.toInt + 0)) = some z from e6)
    exact e7
  clear e1 e4 e5
  obtain ⟨a, mc1, ty1, gc1, ic1, e1, sc1, jc1, e4, e5⟩ := m2 (1, ([(2, 301), (3, 1)], 0), 9) (List.mem_of_getElem? (i := 1) rfl)
  obtain rfl : x1 = a := Sum.inl.inj (Option.some.inj (Sum.inr.inj (Sum.inr.inj (Option.some.inj (show some (rR x1) = some _ from e1)))))
  obtain ⟨gc1, rfl⟩ : ∃ g, gc1 = .inl g := by
    rcases gc1 with g | g
    · exact ⟨g, rfl⟩
    · exact absurd (show some (rI x9) = some (.inr (.inl (g ic1))) from e5) (fun h => by cases h)
  have sc1 : σ x1 = .inl (ty1, mc1, .inl gc1) := sc1
  have ec1 : x9 = gc1 ic1 := Sum.inl.inj (Option.some.inj (show some (rI x9) = some _ from e5))
  have kc1 : (ic1 : Int) = (301 * x2.toInt + (1 * x3.toInt + 0)) + 0 := by
    obtain ⟨z, e6, e7⟩ := e4
    obtain rfl : (301 * x2.toInt + (1 * x3.toInt + 0)) = z := Option.some.inj (show some (301 * x2.toInt + (1 * x3.toInt + 0)) = some z from e6)
    exact e7
  clear e1 e4 e5
  have l0 : 0 ≤ (1 * x8.toInt + (-1 * x3.toInt + 0)) + 0 := by
    obtain ⟨z, e6, e7⟩ := m3 ([(8, 1), (3, -1)], 0) (List.mem_of_getElem? (i := 0) rfl)
    obtain rfl : (1 * x8.toInt + (-1 * x3.toInt + 0)) = z := Option.some.inj (show some (1 * x8.toInt + (-1 * x3.toInt + 0)) = some z from e6)
    exact e7
  have l1 : 0 ≤ (-1 * x8.toInt + (1 * x3.toInt + 0)) + 0 := by
    obtain ⟨z, e6, e7⟩ := m3 ([(8, -1), (3, 1)], 0) (List.mem_of_getElem? (i := 1) rfl)
    obtain rfl : (-1 * x8.toInt + (1 * x3.toInt + 0)) = z := Option.some.inj (show some (-1 * x8.toInt + (1 * x3.toInt + 0)) = some z from e6)
    exact e7
  have l2 : 0 ≤ (1 * x10.toInt + (-301 * x2.toInt + (-1 * x6.toInt + 0))) + 0 := by
    obtain ⟨z, e6, e7⟩ := m3 ([(10, 1), (2, -301), (6, -1)], 0) (List.mem_of_getElem? (i := 2) rfl)
    obtain rfl : (1 * x10.toInt + (-301 * x2.toInt + (-1 * x6.toInt + 0))) = z := Option.some.inj (show some (1 * x10.toInt + (-301 * x2.toInt + (-1 * x6.toInt + 0))) = some z from e6)
    exact e7
  have l3 : 0 ≤ (-1 * x10.toInt + (301 * x2.toInt + (1 * x6.toInt + 0))) + 0 := by
    obtain ⟨z, e6, e7⟩ := m3 ([(10, -1), (2, 301), (6, 1)], 0) (List.mem_of_getElem? (i := 3) rfl)
    obtain rfl : (-1 * x10.toInt + (301 * x2.toInt + (1 * x6.toInt + 0))) = z := Option.some.inj (show some (-1 * x10.toInt + (301 * x2.toInt + (1 * x6.toInt + 0))) = some z from e6)
    exact e7
  have f0 : rB2 K n p 241 [rR x0, rI x2, rI x3] σ := by
    obtain ⟨w, e6, e7⟩ := m4 (3859, [0, 2, 3]) (List.mem_of_getElem? (i := 0) rfl)
    obtain rfl : [rR x0, rI x2, rI x3] = w := Option.some.inj (show some [rR x0, rI x2, rI x3] = some w from e6)
    exact (rF_b (r := 3859) (by decide) rfl).mp e7
  obtain ⟨C, y, hY, f0⟩ := ro2_241.mp f0
  have f1 : rB2 K n p 243 [rR x0, rI x2, rI x3, rI x4] σ := by
    obtain ⟨w, e6, e7⟩ := m4 (3892, [0, 2, 3, 4]) (List.mem_of_getElem? (i := 1) rfl)
    obtain rfl : [rR x0, rI x2, rI x3, rI x4] = w := Option.some.inj (show some [rR x0, rI x2, rI x3, rI x4] = some w from e6)
    exact (rF_b (r := 3892) (by decide) rfl).mp e7
  obtain ⟨C9, y9, h9, f1⟩ := ro2_243.mp f1
  obtain ⟨rfl, rfl⟩ := rTY_u hY h9
  clear h9
  have f2 : rB2 K n p 276 [rR x0, rI x2, rI x3, rI x5] σ := by
    obtain ⟨w, e6, e7⟩ := m4 (4420, [0, 2, 3, 5]) (List.mem_of_getElem? (i := 2) rfl)
    obtain rfl : [rR x0, rI x2, rI x3, rI x5] = w := Option.some.inj (show some [rR x0, rI x2, rI x3, rI x5] = some w from e6)
    exact (rF_b (r := 4420) (by decide) rfl).mp e7
  obtain ⟨C9, y9, h9, f2⟩ := ro2_276.mp f2
  obtain ⟨rfl, rfl⟩ := rTY_u hY h9
  clear h9
  have f3 : rB2 K n p 277 [rR x0, rI x2, rI x3, rI x6, rI x7] σ := by
    obtain ⟨w, e6, e7⟩ := m4 (4437, [0, 2, 3, 6, 7]) (List.mem_of_getElem? (i := 3) rfl)
    obtain rfl : [rR x0, rI x2, rI x3, rI x6, rI x7] = w := Option.some.inj (show some [rR x0, rI x2, rI x3, rI x6, rI x7] = some w from e6)
    exact (rF_b (r := 4437) (by decide) rfl).mp e7
  obtain ⟨C9, y9, h9, f3⟩ := ro2_277.mp f3
  obtain ⟨rfl, rfl⟩ := rTY_u hY h9
  clear h9
  clear m1 m2 m3 m4
  have y0 : y.2.2.2.1 x6.toInt = x8.toInt := rSc_c hY.1.2.2.2.1 s0 t0 sc0 ec0 (by omega)
  have y1 : y.2.2.2.1 x3.toInt = x9.toInt := rSc_c hY.1.2.2.2.1 s0 t0 sc1 ec1 (by omega)
  have hne : ¬ x5.toInt = x3.toInt := fun h => by
    obtain ⟨k1, k2, A, B, D, k3, k4, k5⟩ := f3
    have hpr := hY.2.2.2.1 x3.toInt b3 k2
    obtain ⟨L, n1, n2, n3, n4⟩ := rTr_L hY.2.2 hpr.1 (by omega)
    have eL : L = A ++ x6.toInt :: (B ++ x3.toInt :: D) := rCn_uq n2 k3 (fun c hc => by have := (n3 c).mp hc; omega) (fun c hc => by have := k4 c hc; omega)
    rw [eL] at n1
    have hf := f2.2.2
    rw [h] at hf
    match A, k3, n1 with
    | [], k3, n1 =>
      have e : y.2.2.1 (y.1 x3.toInt) = x6.toInt := k3.1
      have n5 := (List.nodup_cons.mp n1).1
      exact n5 (by rw [← e, hf]; exact List.mem_append_right _ List.mem_cons_self)
    | a :: A, k3, n1 =>
      have e : y.2.2.1 (y.1 x3.toInt) = a := k3.1
      have n5 := (List.nodup_cons.mp n1).1
      exact n5 (by rw [← e, hf]; exact List.mem_append_right _ (List.mem_cons_of_mem _ (List.mem_append_right _ List.mem_cons_self)))
  have q0 : rB2 K n p 278 [rR x0, rI x2, rI x3, rI x4, rI x5, rI x6] (jup σ x1 (jsto (σ x1) x10.toNatClampNeg x9)) := ro2_278.mpr (by
    have yb : y.2.2.2.1 x6.toInt = x8.toInt := y0
    have yh : y.2.2.2.1 x3.toInt = x9.toInt := y1
    obtain ⟨k1, k2, A, B, D, k3, k4, k5⟩ := f3
    have hm := rCn_mv k3
    have eB : B = [] := by
      match B, hm, k3 with
      | [], _, _ => rfl
      | d :: r, hm, k3 =>
        exfalso
        have e : y.2.2.2.1 x6.toInt = d := hm.1
        have hpr := hY.2.2.2.1 x3.toInt b3 k2
        obtain ⟨L, n1, n2, n3, n4⟩ := rTr_L hY.2.2 hpr.1 (by omega)
        have eL : L = A ++ x6.toInt :: (d :: r ++ x3.toInt :: D) := rCn_uq n2 k3 (fun c hc => by have := (n3 c).mp hc; omega) (fun c hc => by have := k4 c hc; omega)
        rw [eL] at n1
        have n5 := (List.nodup_append.mp n1).2.1
        have n6 := (List.nodup_cons.mp n5).2
        have n7 := (List.nodup_cons.mp n6).1
        have e9 : d = x3.toInt := by omega
        exact n7 (by rw [e9]; exact List.mem_append_right _ List.mem_cons_self)
    subst eB
    rw [List.nil_append] at k3 k4
    obtain ⟨hT, hC, hTr⟩ := hY
    obtain ⟨⟨h1, q1, z1⟩, ⟨h2, q2, z2⟩, ⟨h3, q3, z3⟩, ⟨h4, q4, z4⟩, h5, h6, q5, q6, z5, z6⟩ := hT
    obtain ⟨gC, rC, eC⟩ := hC
    have hi : x10.toNatClampNeg = x10.toInt.toNat := rfl
    have w4 : ∀ k, 0 ≤ k → k ≤ C → rSc (upd h4 x10.toNatClampNeg x9) x2.toInt k = if k = x6.toInt then x9.toInt else y.2.2.2.1 k := fun k k0 k1 => by
      show ((upd h4 x10.toNatClampNeg x9) (301 * x2.toInt + k).toNat).toInt = _
      unfold upd
      by_cases ck : k = x6.toInt
      · rw [if_pos ck, if_pos (by rw [hi]; omega)]
      · rw [if_neg ck, if_neg (by rw [hi]; omega), z4]
        rfl
    refine ⟨C, (y.1, y.2.1, y.2.2.1, rSc (upd h4 x10.toNatClampNeg x9) x2.toInt, y.2.2.2.2), y.2.2.2.1, ⟨⟨h1, rRo_o q1 (by omega) (by omega), z1⟩, ⟨h2, rRo_o q2 (by omega) (by omega), z2⟩, ⟨h3, rRo_o q3 (by omega) (by omega), z3⟩, ⟨_, rRo_up q4 s0 t0, rfl⟩, h5, h6, rRo_o q5 (by omega) (by omega), rRo_o q6 (by omega) (by omega), z5, z6⟩, ⟨gC, rRo_o rC (by omega) (by omega), eC⟩, hTr, b3, k2, f1, by show y.2.2.1 x4.toInt = _; rw [← f1]; exact f2.2.2, hne, ⟨A, D, by show rCn _ (y.2.2.1 x4.toInt) _; rw [← f1]; exact k3, k4⟩, fun k k0 k1 => ?_⟩
    dsimp only
    rw [w4 k k0 k1, yh])
  exact ⟨p, fun _ => rfl, ⟨(fun q h => by cases h), fun q h => (by cases h), (fun f h => by cases h), (aAllc ⟨_, rfl, rF_p (r := 4454) (by decide) (by decide) q0⟩ (fun f h => by cases h))⟩, [], List.mem_cons_self, fun f h => (by cases h)⟩
theorem rw_rdS2 {K : Nat → Nat} {n : Nat} {JX : (Nat → jcell) → Prop} : aGho (rG K n) fa_T K n JX ag_rdS2 := by
  refine aGho_of ⟨rfl, rfl⟩ ?_
  intro p σ ρ hH hX hA hM0
  have hG := aAG_of hA.1 (fun i e v he hv => (hA.2 i e v he hv).1)
  clear hA
  obtain ⟨v0, v1, v2, v3, v4, v5, v6, v7, rfl, g0, g1, g2, g3, g4, g5, g6, g7⟩ := rA_8 hG
  clear hG
  obtain ⟨x0, rfl, b0, d0⟩ := rG_ref (by decide) g0
  obtain ⟨x1, rfl, b1, d1⟩ := rG_ref (by decide) g1
  obtain ⟨x2, rfl, b2, d2⟩ := aG_int g2
  dsimp only at b2 d2
  obtain ⟨x3, rfl, b3, d3⟩ := aG_int g3
  dsimp only at b3 d3
  obtain ⟨x4, rfl, b4, d4⟩ := aG_int g4
  dsimp only at b4 d4
  obtain ⟨x5, rfl, b5, d5⟩ := aG_int g5
  dsimp only at b5 d5
  obtain ⟨x6, rfl, b6, d6⟩ := aG_int g6
  dsimp only at b6 d6
  obtain ⟨x7, rfl, b7, d7⟩ := aG_int g7
  dsimp only at b7 d7
  obtain ⟨m1, m2, m3, m4⟩ := hM0
  obtain ⟨T, hT⟩ := rTe_ex hH b0 d0
  obtain ⟨a0, c0, fs0, w0, e1, s0, t0, e4⟩ := m1 (0, 11, 1) (List.mem_of_getElem? (i := 0) rfl)
  obtain rfl : x0 = a0 := Sum.inl.inj (Option.some.inj (Sum.inr.inj (Sum.inr.inj (Option.some.inj (show some (rR x0) = some _ from e1)))))
  obtain rfl : rR x1 = w0 := Option.some.inj (show some (rR x1) = some w0 from e4)
  clear e1 e4
  have l0 : 0 ≤ (1 * x7.toInt + (-301 * x2.toInt + (-1 * x3.toInt + 0))) + 0 := by
    obtain ⟨z, e6, e7⟩ := m3 ([(7, 1), (2, -301), (3, -1)], 0) (List.mem_of_getElem? (i := 0) rfl)
    obtain rfl : (1 * x7.toInt + (-301 * x2.toInt + (-1 * x3.toInt + 0))) = z := Option.some.inj (show some (1 * x7.toInt + (-301 * x2.toInt + (-1 * x3.toInt + 0))) = some z from e6)
    exact e7
  have l1 : 0 ≤ (-1 * x7.toInt + (301 * x2.toInt + (1 * x3.toInt + 0))) + 0 := by
    obtain ⟨z, e6, e7⟩ := m3 ([(7, -1), (2, 301), (3, 1)], 0) (List.mem_of_getElem? (i := 1) rfl)
    obtain rfl : (-1 * x7.toInt + (301 * x2.toInt + (1 * x3.toInt + 0))) = z := Option.some.inj (show some (-1 * x7.toInt + (301 * x2.toInt + (1 * x3.toInt + 0))) = some z from e6)
    exact e7
  have f0 : rB2 K n p 278 [rR x0, rI x2, rI x3, rI x4, rI x5, rI x6] σ := by
    obtain ⟨w, e6, e7⟩ := m4 (4454, [0, 2, 3, 4, 5, 6]) (List.mem_of_getElem? (i := 0) rfl)
    obtain rfl : [rR x0, rI x2, rI x3, rI x4, rI x5, rI x6] = w := Option.some.inj (show some [rR x0, rI x2, rI x3, rI x4, rI x5, rI x6] = some w from e6)
    exact (rF_b (r := 4454) (by decide) rfl).mp e7
  have f0 := ro2_278.mp f0
  clear m1 m2 m3 m4
  have q0 : rB2 K n p 279 [rR x0, rI x2, rI x3, rI x4, rI x5, rI x6] (jup σ x1 (jsto (σ x1) x7.toNatClampNeg x5)) := ro2_279.mpr (by
    obtain ⟨C, y, nx, hT, hC, hTr, k1, k2, k3, k4, k5, ⟨A, B, k6, k7⟩, k9⟩ := f0
    obtain ⟨⟨h1, q1, z1⟩, ⟨h2, q2, z2⟩, ⟨h3, q3, z3⟩, ⟨h4, q4, z4⟩, h5, h6, q5, q6, z5, z6⟩ := hT
    obtain ⟨gC, rC, eC⟩ := hC
    have hi : x7.toNatClampNeg = x7.toInt.toNat := rfl
    have w4 : ∀ k, 0 ≤ k → k ≤ C → rSc (upd h4 x7.toNatClampNeg x5) x2.toInt k = if k = x3.toInt then x5.toInt else y.2.2.2.1 k := fun k k0 k1 => by
      show ((upd h4 x7.toNatClampNeg x5) (301 * x2.toInt + k).toNat).toInt = _
      unfold upd
      by_cases ck : k = x3.toInt
      · rw [if_pos ck, if_pos (by rw [hi]; omega)]
      · rw [if_neg ck, if_neg (by rw [hi]; omega), z4]
        rfl
    refine ⟨C, (y.1, y.2.1, y.2.2.1, rSc (upd h4 x7.toNatClampNeg x5) x2.toInt, y.2.2.2.2), nx, ⟨⟨h1, rRo_o q1 (by omega) (by omega), z1⟩, ⟨h2, rRo_o q2 (by omega) (by omega), z2⟩, ⟨h3, rRo_o q3 (by omega) (by omega), z3⟩, ⟨_, rRo_up q4 s0 t0, rfl⟩, h5, h6, rRo_o q5 (by omega) (by omega), rRo_o q6 (by omega) (by omega), z5, z6⟩, ⟨gC, rRo_o rC (by omega) (by omega), eC⟩, hTr, k1, k2, k3, k4, k5, ⟨A, B, k6, k7⟩, fun k k0 k1 => ?_⟩
    dsimp only
    rw [w4 k k0 k1]
    by_cases ck : k = x3.toInt
    · rw [if_pos ck, if_pos ck]
    · rw [if_neg ck, if_neg ck, k9 k k0 k1])
  exact ⟨p, fun _ => rfl, ⟨(fun q h => by cases h), fun q h => (by cases h), (fun f h => by cases h), (aAllc ⟨_, rfl, rF_p (r := 4470) (by decide) (by decide) q0⟩ (fun f h => by cases h))⟩, [], List.mem_cons_self, fun f h => (by cases h)⟩
theorem rw_rdS3 {K : Nat → Nat} {n : Nat} {JX : (Nat → jcell) → Prop} : aGho (rG K n) fa_T K n JX ag_rdS3 := by
  refine aGho_of ⟨rfl, rfl⟩ ?_
  intro p σ ρ hH hX hA hM0
  have hG := aAG_of hA.1 (fun i e v he hv => (hA.2 i e v he hv).1)
  clear hA
  obtain ⟨v0, v1, v2, v3, v4, v5, v6, v7, rfl, g0, g1, g2, g3, g4, g5, g6, g7⟩ := rA_8 hG
  clear hG
  obtain ⟨x0, rfl, b0, d0⟩ := rG_ref (by decide) g0
  obtain ⟨x1, rfl, b1, d1⟩ := rG_ref (by decide) g1
  obtain ⟨x2, rfl, b2, d2⟩ := aG_int g2
  dsimp only at b2 d2
  obtain ⟨x3, rfl, b3, d3⟩ := aG_int g3
  dsimp only at b3 d3
  obtain ⟨x4, rfl, b4, d4⟩ := aG_int g4
  dsimp only at b4 d4
  obtain ⟨x5, rfl, b5, d5⟩ := aG_int g5
  dsimp only at b5 d5
  obtain ⟨x6, rfl, b6, d6⟩ := aG_int g6
  dsimp only at b6 d6
  obtain ⟨x7, rfl, b7, d7⟩ := aG_int g7
  dsimp only at b7 d7
  obtain ⟨m1, m2, m3, m4⟩ := hM0
  obtain ⟨T, hT⟩ := rTe_ex hH b0 d0
  obtain ⟨a0, c0, fs0, w0, e1, s0, t0, e4⟩ := m1 (0, 10, 1) (List.mem_of_getElem? (i := 0) rfl)
  obtain rfl : x0 = a0 := Sum.inl.inj (Option.some.inj (Sum.inr.inj (Sum.inr.inj (Option.some.inj (show some (rR x0) = some _ from e1)))))
  obtain rfl : rR x1 = w0 := Option.some.inj (show some (rR x1) = some w0 from e4)
  clear e1 e4
  have l0 : 0 ≤ (1 * x7.toInt + (-301 * x2.toInt + (-1 * x4.toInt + 0))) + 0 := by
    obtain ⟨z, e6, e7⟩ := m3 ([(7, 1), (2, -301), (4, -1)], 0) (List.mem_of_getElem? (i := 0) rfl)
    obtain rfl : (1 * x7.toInt + (-301 * x2.toInt + (-1 * x4.toInt + 0))) = z := Option.some.inj (show some (1 * x7.toInt + (-301 * x2.toInt + (-1 * x4.toInt + 0))) = some z from e6)
    exact e7
  have l1 : 0 ≤ (-1 * x7.toInt + (301 * x2.toInt + (1 * x4.toInt + 0))) + 0 := by
    obtain ⟨z, e6, e7⟩ := m3 ([(7, -1), (2, 301), (4, 1)], 0) (List.mem_of_getElem? (i := 1) rfl)
    obtain rfl : (-1 * x7.toInt + (301 * x2.toInt + (1 * x4.toInt + 0))) = z := Option.some.inj (show some (-1 * x7.toInt + (301 * x2.toInt + (1 * x4.toInt + 0))) = some z from e6)
    exact e7
  have f0 : rB2 K n p 279 [rR x0, rI x2, rI x3, rI x4, rI x5, rI x6] σ := by
    obtain ⟨w, e6, e7⟩ := m4 (4470, [0, 2, 3, 4, 5, 6]) (List.mem_of_getElem? (i := 0) rfl)
    obtain rfl : [rR x0, rI x2, rI x3, rI x4, rI x5, rI x6] = w := Option.some.inj (show some [rR x0, rI x2, rI x3, rI x4, rI x5, rI x6] = some w from e6)
    exact (rF_b (r := 4470) (by decide) rfl).mp e7
  have f0 := ro2_279.mp f0
  clear m1 m2 m3 m4
  have q0 : rB2 K n p 241 [rR x0, rI x2, rI x3] (jup σ x1 (jsto (σ x1) x7.toNatClampNeg x3)) := ro2_241.mpr (by
    obtain ⟨C, y, nx, hT, hC, hTr, k1, k2, k3, k4, k5, ⟨A, B, k6, k7⟩, k9⟩ := f0
    obtain ⟨⟨h1, q1, z1⟩, ⟨h2, q2, z2⟩, ⟨h3, q3, z3⟩, ⟨h4, q4, z4⟩, h5, h6, q5, q6, z5, z6⟩ := hT
    obtain ⟨gC, rC, eC⟩ := hC
    have hi : x7.toNatClampNeg = x7.toInt.toNat := rfl
    have w3 : ∀ k, 0 ≤ k → k ≤ C → rSc (upd h3 x7.toNatClampNeg x3) x2.toInt k = if k = x4.toInt then x3.toInt else y.2.2.1 k := fun k k0 k1 => by
      show ((upd h3 x7.toNatClampNeg x3) (301 * x2.toInt + k).toNat).toInt = _
      unfold upd
      by_cases ck : k = x4.toInt
      · rw [if_pos ck, if_pos (by rw [hi]; omega)]
      · rw [if_neg ck, if_neg (by rw [hi]; omega), z3]
        rfl
    refine ⟨C, (y.1, y.2.1, rSc (upd h3 x7.toNatClampNeg x3) x2.toInt, y.2.2.2.1, y.2.2.2.2), ⟨⟨⟨h1, rRo_o q1 (by omega) (by omega), z1⟩, ⟨h2, rRo_o q2 (by omega) (by omega), z2⟩, ⟨_, rRo_up q3 s0 t0, rfl⟩, ⟨h4, rRo_o q4 (by omega) (by omega), z4⟩, h5, h6, rRo_o q5 (by omega) (by omega), rRo_o q6 (by omega) (by omega), z5, z6⟩, ⟨gC, rRo_o rC (by omega) (by omega), eC⟩, ?_⟩, by omega, k2⟩
    have k6' : rCn nx (y.2.2.1 (y.1 x3.toInt)) (A ++ x6.toInt :: x3.toInt :: B) := by rw [k3]; exact k6
    have k4' : y.2.2.1 (y.1 x3.toInt) = x5.toInt := by rw [k3]; exact k4
    refine rTr_ld (y := (y.1, y.2.1, y.2.2.1, nx, y.2.2.2.2)) hTr k1 k2 (fun h => k5 (k4'.symm.trans h)) k6' (fun c hc => by have := k7 c hc; omega) rfl rfl rfl (fun k k0 k1 => ?_) (fun k k0 k1 => ?_)
    · dsimp only
      rw [w3 k k0 k1, k3]
    · dsimp only
      rw [k9 k k0 k1, k4'])
  exact ⟨p, fun _ => rfl, ⟨(fun q h => by cases h), fun q h => (by cases h), (fun f h => by cases h), (aAllc ⟨_, rfl, rF_p (r := 3859) (by decide) (by decide) q0⟩ (fun f h => by cases h))⟩, [], List.mem_cons_self, fun f h => (by cases h)⟩

