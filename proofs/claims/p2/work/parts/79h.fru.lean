/-! rules of the writer: their proofs -/
set_option maxRecDepth 8192 in
theorem rw_ruL0s {K : Nat → Nat} {n : Nat} : aGho (fF K n) fa_T K n (fJX K n) ag_ruL0s := by
  refine aGho_of ⟨rfl, rfl⟩ ?_
  intro p σ ρ hH hX hA hM
  have hG := aAG_of hA.1 (fun i e v he hv => (hA.2 i e v he hv).1)
  clear hA
  obtain ⟨v0, v1, v2, v3, rfl, g0, g1, g2, g3⟩ := fA_4 hG
  clear hG
  obtain ⟨x0, rfl, b0, d0⟩ := fG_ref (by decide) g0
  obtain ⟨x1, rfl, b1, d1⟩ := aG_int g1
  dsimp only at b1 d1
  obtain ⟨x2, rfl, b2, d2⟩ := aG_int g2
  dsimp only at b2 d2
  obtain ⟨x3, rfl, b3, d3⟩ := aG_int g3
  dsimp only at b3 d3
  obtain ⟨m1, m2, m3, m4⟩ := hM
  have f0 : fB K n p 66 [fR x0, fI x1] σ := by
    obtain ⟨w, e6, e7⟩ := m4 (1058, [0, 1]) (List.mem_of_getElem? (i := 0) rfl)
    obtain rfl : [fR x0, fI x1] = w := Option.some.inj (show some [fR x0, fI x1] = some w from e6)
    exact (fF_b (r := 1058) (by decide) rfl).mp e7
  have f1 : fB K n p 3 [fI x3] σ := by
    obtain ⟨w, e6, e7⟩ := m4 (49, [3]) (List.mem_of_getElem? (i := 1) rfl)
    obtain rfl : [fI x3] = w := Option.some.inj (show some [fI x3] = some w from e6)
    exact (fF_b (r := 49) (by decide) rfl).mp e7
  clear m1 m2 m3 m4
  obtain ⟨a, hi, e, hk, h⟩ := f0
  cases e
  obtain ⟨m9, e9, M⟩ := f1
  cases e9
  have q0 : fB K n (p) 66 [fR x0, fI x1] (jup σ x0 (jsto (σ x0) x2.toNatClampNeg x3)) := by
    exact ⟨_, _, rfl, hk, fLl_st h (fun _ => M) (fun k h1 h2 => h2)⟩
  exact ⟨p, fun _ => rfl, ⟨(fun q h => by cases h), fun q h => (by cases h), (fun f h => by cases h), (aAllc ⟨_, rfl, fF_p (r := 1058) (by decide) (by decide) rfl q0⟩ (fun f h => by cases h))⟩, [], List.mem_cons_self, fun f h => (by cases h)⟩
set_option maxRecDepth 8192 in
theorem rw_ruL0w {K : Nat → Nat} {n : Nat} : aGho (fF K n) fa_T K n (fJX K n) ag_ruL0w := by
  refine aGho_of ⟨rfl, rfl⟩ ?_
  intro p σ ρ hH hX hA hM
  have hG := aAG_of hA.1 (fun i e v he hv => (hA.2 i e v he hv).1)
  clear hA
  obtain ⟨v0, v1, v2, rfl, g0, g1, g2⟩ := fA_3 hG
  clear hG
  obtain ⟨x0, rfl, b0, d0⟩ := fG_ref (by decide) g0
  obtain ⟨x1, rfl, b1, d1⟩ := aG_int g1
  dsimp only at b1 d1
  obtain ⟨x2, rfl, b2, d2⟩ := aG_int g2
  dsimp only at b2 d2
  obtain ⟨m1, m2, m3, m4⟩ := hM
  have l0 : 0 ≤ (1 * x1.toInt + (-1 * x2.toInt + 0)) + 0 := by
    obtain ⟨z, e6, e7⟩ := m3 ([(1, 1), (2, -1)], 0) (List.mem_of_getElem? (i := 0) rfl)
    obtain rfl : (1 * x1.toInt + (-1 * x2.toInt + 0)) = z := Option.some.inj (show some (1 * x1.toInt + (-1 * x2.toInt + 0)) = some z from e6)
    exact e7
  have f0 : fB K n p 66 [fR x0, fI x1] σ := by
    obtain ⟨w, e6, e7⟩ := m4 (1058, [0, 1]) (List.mem_of_getElem? (i := 0) rfl)
    obtain rfl : [fR x0, fI x1] = w := Option.some.inj (show some [fR x0, fI x1] = some w from e6)
    exact (fF_b (r := 1058) (by decide) rfl).mp e7
  clear m1 m2 m3 m4
  obtain ⟨a, hi, e, hk, h1, h2, m, g, h3, h4⟩ := f0
  cases e
  have q0 : fB K n (p) 66 [fR x0, fI x2] σ := by
    exact ⟨_, _, rfl, hk, h1, h2, m, g, h3, fun k hk => h4 k (by omega)⟩
  exact ⟨p, fun _ => rfl, ⟨(fun q h => by cases h), fun q h => (by cases h), (fun f h => by cases h), (aAllc ⟨_, rfl, (fF_b (r := 1058) (by decide) rfl).mpr q0⟩ (fun f h => by cases h))⟩, [], List.mem_cons_self, fun f h => (by cases h)⟩
set_option maxRecDepth 8192 in
theorem rw_ruGO1 {K : Nat → Nat} {n : Nat} : aGho (fF K n) fa_T K n (fJX K n) ag_ruGO1 := by
  refine aGho_of ⟨rfl, rfl⟩ ?_
  intro p σ ρ hH hX hA hM
  have hG := aAG_of hA.1 (fun i e v he hv => (hA.2 i e v he hv).1)
  clear hA
  obtain ⟨v0, v1, v2, v3, v4, rfl, g0, g1, g2, g3, g4⟩ := fA_5 hG
  clear hG
  obtain ⟨x0, rfl, b0, d0⟩ := fG_ref (by decide) g0
  obtain ⟨x1, rfl, b1, d1⟩ := aG_int g1
  dsimp only at b1 d1
  obtain ⟨x2, rfl, b2, d2⟩ := aG_int g2
  dsimp only at b2 d2
  obtain ⟨x3, rfl, b3, d3⟩ := aG_int g3
  dsimp only at b3 d3
  obtain ⟨x4, rfl, b4, d4⟩ := fG_ref (by decide) g4
  obtain ⟨m1, m2, m3, m4⟩ := hM
  obtain ⟨a0, c0, fs0, w0, e1, s0, t0, e4⟩ := m1 (0, 5, 4) (List.mem_of_getElem? (i := 0) rfl)
  obtain rfl : x0 = a0 := Sum.inl.inj (Option.some.inj (Sum.inr.inj (Sum.inr.inj (Option.some.inj (show some (fR x0) = some _ from e1)))))
  obtain rfl : fR x4 = w0 := Option.some.inj (show some (fR x4) = some w0 from e4)
  clear e1 e4
  obtain ⟨a, mc0, ty0, gc0, ic0, e1, sc0, jc0, e4, e5⟩ := m2 (4, ([(2, 1)], 0), 3) (List.mem_of_getElem? (i := 0) rfl)
  obtain rfl : x4 = a := Sum.inl.inj (Option.some.inj (Sum.inr.inj (Sum.inr.inj (Option.some.inj (show some (fR x4) = some _ from e1)))))
  obtain ⟨gc0, rfl⟩ : ∃ g, gc0 = .inl g := by
    rcases gc0 with g | g
    · exact ⟨g, rfl⟩
    · exact absurd (show some (fI x3) = some (.inr (.inl (g ic0))) from e5) (fun h => by cases h)
  have sc0 : σ x4 = .inl (ty0, mc0, .inl gc0) := sc0
  have ec0 : x3 = gc0 ic0 := Sum.inl.inj (Option.some.inj (show some (fI x3) = some _ from e5))
  have kc0 : (ic0 : Int) = (1 * x2.toInt + 0) + 0 := by
    obtain ⟨z, e6, e7⟩ := e4
    obtain rfl : (1 * x2.toInt + 0) = z := Option.some.inj (show some (1 * x2.toInt + 0) = some z from e6)
    exact e7
  clear e1 e4 e5
  obtain rfl : ic0 = x2.toInt.toNat := by omega
  have f0 : fB K n p 104 [fR x0, fI x1, fI x2] σ := by
    obtain ⟨w, e6, e7⟩ := m4 (1667, [0, 1, 2]) (List.mem_of_getElem? (i := 0) rfl)
    obtain rfl : [fR x0, fI x1, fI x2] = w := Option.some.inj (show some [fR x0, fI x1, fI x2] = some w from e6)
    exact (fF_b (r := 1667) (by decide) rfl).mp e7
  clear m1 m2 m3 m4
  obtain ⟨a4, c4, h4, N4, pa4, e4, w4, u4, l4a, l4b, p4⟩ := f0
  cases e4
  obtain ⟨fi, wfi, efi⟩ := fRo_mk hH b0 d0 s0 t0 b4 d4 (q := ((0, 300), [])) rfl
  rw [sc0] at efi
  cases efi
  have q0 : fB K n (p) 118 [fR x0, fI x1, fI x3] σ := by
    exact ⟨_, _, _, pa4, gc0, rfl, w4, wfi, by rw [p4]; exact ec0.symm⟩
  exact ⟨p, fun _ => rfl, ⟨(fun q h => by cases h), fun q h => (by cases h), (fun f h => by cases h), (aAllc ⟨_, rfl, (fF_b (r := 1891) (by decide) rfl).mpr q0⟩ (fun f h => by cases h))⟩, [], List.mem_cons_self, fun f h => (by cases h)⟩
set_option maxRecDepth 8192 in
theorem rw_ruGO2 {K : Nat → Nat} {n : Nat} : aGho (fF K n) fa_T K n (fJX K n) ag_ruGO2 := by
  refine aGho_of ⟨rfl, rfl⟩ ?_
  intro p σ ρ hH hX hA hM
  have hG := aAG_of hA.1 (fun i e v he hv => (hA.2 i e v he hv).1)
  clear hA
  obtain ⟨v0, v1, v2, v3, rfl, g0, g1, g2, g3⟩ := fA_4 hG
  clear hG
  obtain ⟨x0, rfl, b0, d0⟩ := fG_ref (by decide) g0
  obtain ⟨x1, rfl, b1, d1⟩ := aG_int g1
  dsimp only at b1 d1
  obtain ⟨x2, rfl, b2, d2⟩ := aG_int g2
  dsimp only at b2 d2
  obtain ⟨x3, rfl, b3, d3⟩ := aG_int g3
  dsimp only at b3 d3
  obtain ⟨m1, m2, m3, m4⟩ := hM
  have l0 : 0 ≤ (1 * x2.toInt + (-1 * x1.toInt + 0)) + 0 := by
    obtain ⟨z, e6, e7⟩ := m3 ([(2, 1), (1, -1)], 0) (List.mem_of_getElem? (i := 0) rfl)
    obtain rfl : (1 * x2.toInt + (-1 * x1.toInt + 0)) = z := Option.some.inj (show some (1 * x2.toInt + (-1 * x1.toInt + 0)) = some z from e6)
    exact e7
  have l1 : 0 ≤ (-1 * x2.toInt + (1 * x1.toInt + 0)) + 0 := by
    obtain ⟨z, e6, e7⟩ := m3 ([(2, -1), (1, 1)], 0) (List.mem_of_getElem? (i := 1) rfl)
    obtain rfl : (-1 * x2.toInt + (1 * x1.toInt + 0)) = z := Option.some.inj (show some (-1 * x2.toInt + (1 * x1.toInt + 0)) = some z from e6)
    exact e7
  have f0 : fB K n p 118 [fR x0, fI x1, fI x2] σ := by
    obtain ⟨w, e6, e7⟩ := m4 (1891, [0, 1, 2]) (List.mem_of_getElem? (i := 0) rfl)
    obtain rfl : [fR x0, fI x1, fI x2] = w := Option.some.inj (show some [fR x0, fI x1, fI x2] = some w from e6)
    exact (fF_b (r := 1891) (by decide) rfl).mp e7
  clear m1 m2 m3 m4
  obtain ⟨a, nd, x, pa, fi, e, w, y, z⟩ := f0
  cases e
  have q0 : fB K n (p) 120 [fR x0, fI x1, fI x3] σ := by
    exact ⟨_, _, _, rfl, Or.inr ⟨pa, fi, w, y, by rw [z]; exact fI0 (by omega)⟩⟩
  exact ⟨p, fun _ => rfl, ⟨(fun q h => by cases h), fun q h => (by cases h), (fun f h => by cases h), (aAllc ⟨_, rfl, (fF_b (r := 1923) (by decide) rfl).mpr q0⟩ (fun f h => by cases h))⟩, [], List.mem_cons_self, fun f h => (by cases h)⟩
set_option maxRecDepth 8192 in
theorem rw_ruGO0 {K : Nat → Nat} {n : Nat} : aGho (fF K n) fa_T K n (fJX K n) ag_ruGO0 := by
  refine aGho_of ⟨rfl, rfl⟩ ?_
  intro p σ ρ hH hX hA hM
  have hG := aAG_of hA.1 (fun i e v he hv => (hA.2 i e v he hv).1)
  clear hA
  obtain ⟨v0, v1, v2, rfl, g0, g1, g2⟩ := fA_3 hG
  clear hG
  obtain ⟨x0, rfl, b0, d0⟩ := fG_ref (by decide) g0
  obtain ⟨x1, rfl, b1, d1⟩ := aG_int g1
  dsimp only at b1 d1
  obtain ⟨x2, rfl, b2, d2⟩ := aG_int g2
  dsimp only at b2 d2
  obtain ⟨m1, m2, m3, m4⟩ := hM
  have l0 : 0 ≤ (-1 * x2.toInt + 0) + 0 := by
    obtain ⟨z, e6, e7⟩ := m3 ([(2, -1)], 0) (List.mem_of_getElem? (i := 0) rfl)
    obtain rfl : (-1 * x2.toInt + 0) = z := Option.some.inj (show some (-1 * x2.toInt + 0) = some z from e6)
    exact e7
  clear m1 m2 m3 m4
  have q0 : fB K n (p) 120 [fR x0, fI x1, fI x2] σ := by
    exact ⟨_, _, _, rfl, Or.inl (by omega)⟩
  exact ⟨p, fun _ => rfl, ⟨(fun q h => by cases h), fun q h => (by cases h), (fun f h => by cases h), (aAllc ⟨_, rfl, (fF_b (r := 1923) (by decide) rfl).mpr q0⟩ (fun f h => by cases h))⟩, [], List.mem_cons_self, fun f h => (by cases h)⟩
set_option maxRecDepth 8192 in
theorem rw_ruW1 {K : Nat → Nat} {n : Nat} : aGho (fF K n) fa_T K n (fJX K n) ag_ruW1 := by
  refine aGho_of ⟨rfl, rfl⟩ ?_
  intro p σ ρ hH hX hA hM
  have hG := aAG_of hA.1 (fun i e v he hv => (hA.2 i e v he hv).1)
  clear hA
  obtain ⟨v0, v1, v2, v3, v4, rfl, g0, g1, g2, g3, g4⟩ := fA_5 hG
  clear hG
  obtain ⟨x0, rfl, b0, d0⟩ := fG_ref (by decide) g0
  obtain ⟨x1, rfl, b1, d1⟩ := fG_ref (by decide) g1
  obtain ⟨x2, rfl, b2, d2⟩ := aG_int g2
  dsimp only at b2 d2
  obtain ⟨x3, rfl, b3, d3⟩ := aG_int g3
  dsimp only at b3 d3
  obtain ⟨x4, rfl, b4, d4⟩ := aG_int g4
  dsimp only at b4 d4
  obtain ⟨m1, m2, m3, m4⟩ := hM
  have l0 : 0 ≤ (-1 * x4.toInt + 0) + 0 := by
    obtain ⟨z, e6, e7⟩ := m3 ([(4, -1)], 0) (List.mem_of_getElem? (i := 0) rfl)
    obtain rfl : (-1 * x4.toInt + 0) = z := Option.some.inj (show some (-1 * x4.toInt + 0) = some z from e6)
    exact e7
  have f0 : fB K n p 116 [fR x0, fR x1, fI x2] σ := by
    obtain ⟨w, e6, e7⟩ := m4 (1859, [0, 1, 2]) (List.mem_of_getElem? (i := 0) rfl)
    obtain rfl : [fR x0, fR x1, fI x2] = w := Option.some.inj (show some [fR x0, fR x1, fI x2] = some w from e6)
    exact (fF_b (r := 1859) (by decide) rfl).mp e7
  clear m1 m2 m3 m4
  obtain ⟨a, b, c, N, t, q, e, w, u1, l1, l2, l3, H, A⟩ := f0
  cases e
  have q0 : fB K n (.inl q) 1 [fR x1] σ := by
    exact ⟨_, rfl, A, (fTk_good H).1, q, rfl⟩
  have q1 : fB K n (.inl q) 67 [fR x0, fI x2, fI x2, fI x3, fI x4] σ := by
    refine ⟨_, _, _, _, _, N, t, (t.1 x2.toInt.toNat).toInt.toNat, (t.1 x2.toInt.toNat).toInt.toNat, rfl, w, u1, by omega, ⟨q, rfl⟩, H, Or.inr ⟨by omega, l2, by omega⟩, ?_, fun h => by omega, by omega⟩
    rw [show x4.toInt.toNat = 0 by omega]
    exact ⟨fTk_le H, rfl, fun j hj => by omega, by omega, by omega, by omega⟩
  exact ⟨.inl q, fun h => (by cases h), ⟨(fun q h => by cases h), fun q h => (by cases h), (fun f h => by cases h), (aAllc ⟨_, rfl, (fF_b (r := 17) (by decide) rfl).mpr q0⟩ (aAllc ⟨_, rfl, (fF_b (r := 1077) (by decide) rfl).mpr q1⟩ (fun f h => by cases h)))⟩, [], List.mem_cons_self, fun f h => (by cases h)⟩
set_option maxRecDepth 8192 in
theorem rw_ruWRm {K : Nat → Nat} {n : Nat} : aGho (fF K n) fa_T K n (fJX K n) ag_ruWRm := by
  refine aGho_of ⟨rfl, rfl⟩ ?_
  intro p σ ρ hH hX hA hM
  have hG := aAG_of hA.1 (fun i e v he hv => (hA.2 i e v he hv).1)
  clear hA
  obtain ⟨v0, v1, v2, v3, v4, v5, v6, rfl, g0, g1, g2, g3, g4, g5, g6⟩ := fA_7 hG
  clear hG
  obtain ⟨x0, rfl, b0, d0⟩ := fG_ref (by decide) g0
  obtain ⟨x1, rfl, b1, d1⟩ := aG_int g1
  dsimp only at b1 d1
  obtain ⟨x2, rfl, b2, d2⟩ := aG_int g2
  dsimp only at b2 d2
  obtain ⟨x3, rfl, b3, d3⟩ := aG_int g3
  dsimp only at b3 d3
  obtain ⟨x4, rfl, b4, d4⟩ := aG_int g4
  dsimp only at b4 d4
  obtain ⟨x5, rfl, b5, d5⟩ := aG_int g5
  dsimp only at b5 d5
  obtain ⟨x6, rfl, b6, d6⟩ := fG_ref (by decide) g6
  obtain ⟨m1, m2, m3, m4⟩ := hM
  obtain ⟨a0, c0, fs0, w0, e1, s0, t0, e4⟩ := m1 (0, 4, 6) (List.mem_of_getElem? (i := 0) rfl)
  obtain rfl : x0 = a0 := Sum.inl.inj (Option.some.inj (Sum.inr.inj (Sum.inr.inj (Option.some.inj (show some (fR x0) = some _ from e1)))))
  obtain rfl : fR x6 = w0 := Option.some.inj (show some (fR x6) = some w0 from e4)
  clear e1 e4
  obtain ⟨a, mc0, ty0, gc0, ic0, e1, sc0, jc0, e4, e5⟩ := m2 (6, ([(2, 1)], 0), 5) (List.mem_of_getElem? (i := 0) rfl)
  obtain rfl : x6 = a := Sum.inl.inj (Option.some.inj (Sum.inr.inj (Sum.inr.inj (Option.some.inj (show some (fR x6) = some _ from e1)))))
  obtain ⟨gc0, rfl⟩ : ∃ g, gc0 = .inl g := by
    rcases gc0 with g | g
    · exact ⟨g, rfl⟩
    · exact absurd (show some (fI x5) = some (.inr (.inl (g ic0))) from e5) (fun h => by cases h)
  have sc0 : σ x6 = .inl (ty0, mc0, .inl gc0) := sc0
  have ec0 : x5 = gc0 ic0 := Sum.inl.inj (Option.some.inj (show some (fI x5) = some _ from e5))
  have kc0 : (ic0 : Int) = (1 * x2.toInt + 0) + 0 := by
    obtain ⟨z, e6, e7⟩ := e4
    obtain rfl : (1 * x2.toInt + 0) = z := Option.some.inj (show some (1 * x2.toInt + 0) = some z from e6)
    exact e7
  clear e1 e4 e5
  obtain rfl : ic0 = x2.toInt.toNat := by omega
  have f0 : fB K n p 67 [fR x0, fI x1, fI x2, fI x3, fI x4] σ := by
    obtain ⟨w, e6, e7⟩ := m4 (1077, [0, 1, 2, 3, 4]) (List.mem_of_getElem? (i := 0) rfl)
    obtain rfl : [fR x0, fI x1, fI x2, fI x3, fI x4] = w := Option.some.inj (show some [fR x0, fI x1, fI x2, fI x3, fI x4] = some w from e6)
    exact (fF_b (r := 1077) (by decide) rfl).mp e7
  clear m1 m2 m3 m4
  obtain ⟨a, hd, nd, ls, len, N, t, h, h0, e, w, u1, N0, ⟨q, hq⟩, H, hn, hs, hl, l0⟩ := f0
  cases e
  subst hq
  obtain rfl := fRo_c w.2.1 s0 t0 sc0
  obtain ⟨n1, n2, n3⟩ := hn.resolve_left (by omega)
  have q0 : fB K n (.inl q) 3 [fI x5] σ := by
    have hm := fTk_mv H (c := x2.toInt.toNat) (by omega) (by omega) n3
    rw [ec0]
    exact ⟨_, rfl, hm⟩
  exact ⟨.inl q, fun _ => rfl, ⟨(fun q h => by cases h), fun q h => (by cases h), (fun f h => by cases h), (aAllc ⟨_, rfl, (fF_b (r := 49) (by decide) rfl).mpr q0⟩ (fun f h => by cases h))⟩, [], List.mem_cons_self, fun f h => (by cases h)⟩
set_option maxRecDepth 8192 in
theorem rw_ruWRc {K : Nat → Nat} {n : Nat} : aGho (fF K n) fa_T K n (fJX K n) ag_ruWRc := by
  refine aGho_of ⟨rfl, rfl⟩ ?_
  intro p σ ρ hH hX hA hM
  have hG := aAG_of hA.1 (fun i e v he hv => (hA.2 i e v he hv).1)
  clear hA
  obtain ⟨v0, v1, v2, v3, v4, v5, v6, v7, rfl, g0, g1, g2, g3, g4, g5, g6, g7⟩ := fA_8 hG
  clear hG
  obtain ⟨x0, rfl, b0, d0⟩ := fG_ref (by decide) g0
  obtain ⟨x1, rfl, b1, d1⟩ := aG_int g1
  dsimp only at b1 d1
  obtain ⟨x2, rfl, b2, d2⟩ := aG_int g2
  dsimp only at b2 d2
  obtain ⟨x3, rfl, b3, d3⟩ := aG_int g3
  dsimp only at b3 d3
  obtain ⟨x4, rfl, b4, d4⟩ := aG_int g4
  dsimp only at b4 d4
  obtain ⟨x5, rfl, b5, d5⟩ := fG_ref (by decide) g5
  obtain ⟨x6, rfl, b6, d6⟩ := aG_int g6
  dsimp only at b6 d6
  obtain ⟨x7, rfl, b7, d7⟩ := aG_int g7
  dsimp only at b7 d7
  obtain ⟨m1, m2, m3, m4⟩ := hM
  obtain ⟨a0, c0, fs0, w0, e1, s0, t0, e4⟩ := m1 (5, 5, 7) (List.mem_of_getElem? (i := 0) rfl)
  obtain rfl : x5 = a0 := Sum.inl.inj (Option.some.inj (Sum.inr.inj (Sum.inr.inj (Option.some.inj (show some (fR x5) = some _ from e1)))))
  obtain rfl : fI x7 = w0 := Option.some.inj (show some (fI x7) = some w0 from e4)
  clear e1 e4
  obtain ⟨a1, c1, fs1, w1, e1, s1, t1, e4⟩ := m1 (0, 1, 6) (List.mem_of_getElem? (i := 1) rfl)
  obtain rfl : x0 = a1 := Sum.inl.inj (Option.some.inj (Sum.inr.inj (Sum.inr.inj (Option.some.inj (show some (fR x0) = some _ from e1)))))
  obtain rfl : fI x6 = w1 := Option.some.inj (show some (fI x6) = some w1 from e4)
  clear e1 e4
  have f0 : fB K n p 1 [fR x5] σ := by
    obtain ⟨w, e6, e7⟩ := m4 (17, [5]) (List.mem_of_getElem? (i := 0) rfl)
    obtain rfl : [fR x5] = w := Option.some.inj (show some [fR x5] = some w from e6)
    exact (fF_b (r := 17) (by decide) rfl).mp e7
  have f1 : fB K n p 67 [fR x0, fI x1, fI x2, fI x3, fI x4] σ := by
    obtain ⟨w, e6, e7⟩ := m4 (1077, [0, 1, 2, 3, 4]) (List.mem_of_getElem? (i := 1) rfl)
    obtain rfl : [fR x0, fI x1, fI x2, fI x3, fI x4] = w := Option.some.inj (show some [fR x0, fI x1, fI x2, fI x3, fI x4] = some w from e6)
    exact (fF_b (r := 1077) (by decide) rfl).mp e7
  clear m1 m2 m3 m4
  obtain ⟨a9, e9, A, hg9, q9, hq9⟩ := f0
  cases e9
  obtain ⟨a, hd, nd, ls, len, N, t, h, h0, e, w, u1, N0, ⟨q, hq⟩, H, hn, hs, hl, l0⟩ := f1
  cases e
  subst hq
  have hb2 : q.2 5 = x7 := by
    obtain ⟨h1, h2, fs, r, g, h3, h4, h5, h6, h7, h8, y2, y3, y4, y5, -⟩ := A
    rw [s0] at h3
    cases h3
    rw [t0] at y5
    exact (Sum.inl.inj (Option.some.inj y5)).symm
  obtain rfl := fFi_i u1 s1 t1
  obtain ⟨n1, n2, n3⟩ := hn.resolve_left (by omega)
  have hb := (fTk_good H).2
  have hle := fTk_le H
  rw [show (fq (.inl q : fP)).2 5 = x7 from hb2] at hb
  have r0 : 0 ≤ (-1 * x7.toInt + 0) + 1299 := by
    omega
  have r1 : 0 ≤ (1 * x7.toInt + 0) + 0 := by
    omega
  have r2 : 0 ≤ (1 * x6.toInt + (-1 * x2.toInt + 0)) + 0 := by
    omega
  exact ⟨.inl q, fun _ => rfl, ⟨(fun q h => by cases h), fun q h => (by cases h), (aAllc ⟨_, rfl, r0⟩ (aAllc ⟨_, rfl, r1⟩ (aAllc ⟨_, rfl, r2⟩ (fun f h => by cases h)))), (fun f h => by cases h)⟩, [], List.mem_cons_self, fun f h => (by cases h)⟩
set_option maxRecDepth 8192 in
theorem rw_ruWU {K : Nat → Nat} {n : Nat} : aGho (fF K n) fa_T K n (fJX K n) ag_ruWU := by
  refine aGho_of ⟨rfl, rfl⟩ ?_
  intro p σ ρ hH hX hA hM
  have hG := aAG_of hA.1 (fun i e v he hv => (hA.2 i e v he hv).1)
  clear hA
  obtain ⟨v0, v1, v2, v3, v4, rfl, g0, g1, g2, g3, g4⟩ := fA_5 hG
  clear hG
  obtain ⟨x0, rfl, b0, d0⟩ := fG_ref (by decide) g0
  obtain ⟨x1, rfl, b1, d1⟩ := aG_int g1
  dsimp only at b1 d1
  obtain ⟨x2, rfl, b2, d2⟩ := aG_int g2
  dsimp only at b2 d2
  obtain ⟨x3, rfl, b3, d3⟩ := aG_int g3
  dsimp only at b3 d3
  obtain ⟨x4, rfl, b4, d4⟩ := aG_int g4
  dsimp only at b4 d4
  obtain ⟨m1, m2, m3, m4⟩ := hM
  have f0 : fB K n p 67 [fR x0, fI x1, fI x2, fI x3, fI x4] σ := by
    obtain ⟨w, e6, e7⟩ := m4 (1077, [0, 1, 2, 3, 4]) (List.mem_of_getElem? (i := 0) rfl)
    obtain rfl : [fR x0, fI x1, fI x2, fI x3, fI x4] = w := Option.some.inj (show some [fR x0, fI x1, fI x2, fI x3, fI x4] = some w from e6)
    exact (fF_b (r := 1077) (by decide) rfl).mp e7
  clear m1 m2 m3 m4
  obtain ⟨a, hd, nd, ls, len, N, t, h, h0, e, w, u1, N0, ⟨q, hq⟩, H, hn, hs, hl, l0⟩ := f0
  cases e
  subst hq
  obtain ⟨n1, n2, n3⟩ := hn.resolve_left (by omega)
  have q0 : fB K n (.inl q) 119 [fR x0, fI x1, fI x2, fI x3, fI x4] σ := by
    exact ⟨_, _, _, _, _, N, t.1, h, h0, rfl, w.1, u1, n1, n2, n3, hs, hl, l0⟩
  exact ⟨.inl q, fun _ => rfl, ⟨(fun q h => by cases h), fun q h => (by cases h), (fun f h => by cases h), (aAllc ⟨_, rfl, (fF_b (r := 1909) (by decide) rfl).mpr q0⟩ (fun f h => by cases h))⟩, [], List.mem_cons_self, fun f h => (by cases h)⟩
set_option maxRecDepth 8192 in
theorem rw_ruSI1 {K : Nat → Nat} {n : Nat} : aGho (fF K n) fa_T K n (fJX K n) ag_ruSI1 := by
  refine aGho_of ⟨rfl, rfl⟩ ?_
  intro p σ ρ hH hX hA hM
  have hG := aAG_of hA.1 (fun i e v he hv => (hA.2 i e v he hv).1)
  clear hA
  obtain ⟨v0, v1, v2, v3, v4, v5, v6, v7, rfl, g0, g1, g2, g3, g4, g5, g6, g7⟩ := fA_8 hG
  clear hG
  obtain ⟨x0, rfl, b0, d0⟩ := fG_ref (by decide) g0
  obtain ⟨x1, rfl, b1, d1⟩ := aG_int g1
  dsimp only at b1 d1
  obtain ⟨x2, rfl, b2, d2⟩ := aG_int g2
  dsimp only at b2 d2
  obtain ⟨x3, rfl, b3, d3⟩ := aG_int g3
  dsimp only at b3 d3
  obtain ⟨x4, rfl, b4, d4⟩ := aG_int g4
  dsimp only at b4 d4
  obtain ⟨x5, rfl, b5, d5⟩ := aG_int g5
  dsimp only at b5 d5
  obtain ⟨x6, rfl, b6, d6⟩ := aG_int g6
  dsimp only at b6 d6
  obtain ⟨x7, rfl, b7, d7⟩ := fG_ref (by decide) g7
  obtain ⟨m1, m2, m3, m4⟩ := hM
  obtain ⟨a0, c0, fs0, w0, e1, s0, t0, e4⟩ := m1 (0, 6, 7) (List.mem_of_getElem? (i := 0) rfl)
  obtain rfl : x0 = a0 := Sum.inl.inj (Option.some.inj (Sum.inr.inj (Sum.inr.inj (Option.some.inj (show some (fR x0) = some _ from e1)))))
  obtain rfl : fR x7 = w0 := Option.some.inj (show some (fR x7) = some w0 from e4)
  clear e1 e4
  obtain ⟨a, mc0, ty0, gc0, ic0, e1, sc0, jc0, e4, e5⟩ := m2 (7, ([(2, 1)], 0), 6) (List.mem_of_getElem? (i := 0) rfl)
  obtain rfl : x7 = a := Sum.inl.inj (Option.some.inj (Sum.inr.inj (Sum.inr.inj (Option.some.inj (show some (fR x7) = some _ from e1)))))
  obtain ⟨gc0, rfl⟩ : ∃ g, gc0 = .inl g := by
    rcases gc0 with g | g
    · exact ⟨g, rfl⟩
    · exact absurd (show some (fI x6) = some (.inr (.inl (g ic0))) from e5) (fun h => by cases h)
  have sc0 : σ x7 = .inl (ty0, mc0, .inl gc0) := sc0
  have ec0 : x6 = gc0 ic0 := Sum.inl.inj (Option.some.inj (show some (fI x6) = some _ from e5))
  have kc0 : (ic0 : Int) = (1 * x2.toInt + 0) + 0 := by
    obtain ⟨z, e6, e7⟩ := e4
    obtain rfl : (1 * x2.toInt + 0) = z := Option.some.inj (show some (1 * x2.toInt + 0) = some z from e6)
    exact e7
  clear e1 e4 e5
  obtain rfl : ic0 = x2.toInt.toNat := by omega
  have l0 : 0 ≤ (1 * x5.toInt + 0) + -1 := by
    obtain ⟨z, e6, e7⟩ := m3 ([(5, 1)], -1) (List.mem_of_getElem? (i := 0) rfl)
    obtain rfl : (1 * x5.toInt + 0) = z := Option.some.inj (show some (1 * x5.toInt + 0) = some z from e6)
    exact e7
  have f0 : fB K n p 67 [fR x0, fI x1, fI x2, fI x3, fI x4] σ := by
    obtain ⟨w, e6, e7⟩ := m4 (1077, [0, 1, 2, 3, 4]) (List.mem_of_getElem? (i := 0) rfl)
    obtain rfl : [fR x0, fI x1, fI x2, fI x3, fI x4] = w := Option.some.inj (show some [fR x0, fI x1, fI x2, fI x3, fI x4] = some w from e6)
    exact (fF_b (r := 1077) (by decide) rfl).mp e7
  have f1 : fB K n p 120 [fR x0, fI x2, fI x5] σ := by
    obtain ⟨w, e6, e7⟩ := m4 (1923, [0, 2, 5]) (List.mem_of_getElem? (i := 1) rfl)
    obtain rfl : [fR x0, fI x2, fI x5] = w := Option.some.inj (show some [fR x0, fI x2, fI x5] = some w from e6)
    exact (fF_b (r := 1923) (by decide) rfl).mp e7
  clear m1 m2 m3 m4
  obtain ⟨a, hd, nd, ls, len, N, t, h, h0, e, w, u1, N0, ⟨q, hq⟩, H, hn, hs, hl, l0⟩ := f0
  cases e
  subst hq
  obtain ⟨n1, n2, n3⟩ := hn.resolve_left (by omega)
  obtain ⟨a8, nd8, x8, e8, k8⟩ := f1
  cases e8
  obtain ⟨pa8, fi8, w8, y8, z8⟩ := k8.resolve_left (by omega)
  obtain rfl := fRo_u w8 w.1
  obtain rfl := fRo_u y8 w.2.2.1
  obtain rfl := fRo_c w.2.2.2.1 s0 t0 sc0
  obtain ⟨L, L1, L2, L3⟩ := fTk_ch H (k := h) (fTk_le H)
  rw [show (t.1 x2.toInt.toNat).toInt.toNat = h by omega] at z8
  rw [z8] at L2
  have q0 : fB K n (.inl q) 117 [fR x0, fI x6, fI x2] σ := by
    cases L with
    | nil => have h9 : x2.toInt = 0 := L2; exact absurd h9 (by omega)
    | cons c r =>
      have hc : x2.toInt = (c : Int) := L2.1
      refine ⟨_, _, _, N, t.1, t.2.2.1, t.2.2.2.1, r, rfl, w.1, w.2.2.1, w.2.2.2.1, u1, ?_, fun d hd => ?_⟩
      · rw [ec0, show x2.toInt.toNat = c by omega]
        exact L2.2
      · obtain ⟨y1, y2, y3⟩ := L3 d (List.mem_cons_of_mem _ hd)
        exact ⟨y1, by omega, fI0 (by omega)⟩
  exact ⟨.inl q, fun _ => rfl, ⟨(fun q h => by cases h), fun q h => (by cases h), (fun f h => by cases h), (aAllc ⟨_, rfl, (fF_b (r := 1875) (by decide) rfl).mpr q0⟩ (fun f h => by cases h))⟩, [], List.mem_cons_self, fun f h => (by cases h)⟩
set_option maxRecDepth 8192 in
theorem rw_ruSI0 {K : Nat → Nat} {n : Nat} : aGho (fF K n) fa_T K n (fJX K n) ag_ruSI0 := by
  refine aGho_of ⟨rfl, rfl⟩ ?_
  intro p σ ρ hH hX hA hM
  have hG := aAG_of hA.1 (fun i e v he hv => (hA.2 i e v he hv).1)
  clear hA
  obtain ⟨v0, v1, v2, v3, v4, v5, rfl, g0, g1, g2, g3, g4, g5⟩ := fA_6 hG
  clear hG
  obtain ⟨x0, rfl, b0, d0⟩ := fG_ref (by decide) g0
  obtain ⟨x1, rfl, b1, d1⟩ := aG_int g1
  dsimp only at b1 d1
  obtain ⟨x2, rfl, b2, d2⟩ := aG_int g2
  dsimp only at b2 d2
  obtain ⟨x3, rfl, b3, d3⟩ := aG_int g3
  dsimp only at b3 d3
  obtain ⟨x4, rfl, b4, d4⟩ := aG_int g4
  dsimp only at b4 d4
  obtain ⟨x5, rfl, b5, d5⟩ := aG_int g5
  dsimp only at b5 d5
  obtain ⟨m1, m2, m3, m4⟩ := hM
  have l0 : 0 ≤ (-1 * x5.toInt + 0) + 0 := by
    obtain ⟨z, e6, e7⟩ := m3 ([(5, -1)], 0) (List.mem_of_getElem? (i := 0) rfl)
    obtain rfl : (-1 * x5.toInt + 0) = z := Option.some.inj (show some (-1 * x5.toInt + 0) = some z from e6)
    exact e7
  have f0 : fB K n p 67 [fR x0, fI x1, fI x2, fI x3, fI x4] σ := by
    obtain ⟨w, e6, e7⟩ := m4 (1077, [0, 1, 2, 3, 4]) (List.mem_of_getElem? (i := 0) rfl)
    obtain rfl : [fR x0, fI x1, fI x2, fI x3, fI x4] = w := Option.some.inj (show some [fR x0, fI x1, fI x2, fI x3, fI x4] = some w from e6)
    exact (fF_b (r := 1077) (by decide) rfl).mp e7
  clear m1 m2 m3 m4
  obtain ⟨a, hd, nd, ls, len, N, t, h, h0, e, w, u1, N0, ⟨q, hq⟩, H, hn, hs, hl, l0⟩ := f0
  cases e
  subst hq
  have q0 : fB K n (.inl q) 117 [fR x0, fI x5, fI x2] σ := by
    exact ⟨_, _, _, N, t.1, t.2.2.1, t.2.2.2.1, [], rfl, w.1, w.2.2.1, w.2.2.2.1, u1, (by show x5.toInt = 0; omega), fun d hd => by cases hd⟩
  exact ⟨.inl q, fun _ => rfl, ⟨(fun q h => by cases h), fun q h => (by cases h), (fun f h => by cases h), (aAllc ⟨_, rfl, (fF_b (r := 1875) (by decide) rfl).mpr q0⟩ (fun f h => by cases h))⟩, [], List.mem_cons_self, fun f h => (by cases h)⟩
set_option maxRecDepth 8192 in
theorem rw_ruSI2 {K : Nat → Nat} {n : Nat} : aGho (fF K n) fa_T K n (fJX K n) ag_ruSI2 := by
  refine aGho_of ⟨rfl, rfl⟩ ?_
  intro p σ ρ hH hX hA hM
  have hG := aAG_of hA.1 (fun i e v he hv => (hA.2 i e v he hv).1)
  clear hA
  obtain ⟨v0, v1, v2, v3, v4, rfl, g0, g1, g2, g3, g4⟩ := fA_5 hG
  clear hG
  obtain ⟨x0, rfl, b0, d0⟩ := fG_ref (by decide) g0
  obtain ⟨x1, rfl, b1, d1⟩ := aG_int g1
  dsimp only at b1 d1
  obtain ⟨x2, rfl, b2, d2⟩ := aG_int g2
  dsimp only at b2 d2
  obtain ⟨x3, rfl, b3, d3⟩ := aG_int g3
  dsimp only at b3 d3
  obtain ⟨x4, rfl, b4, d4⟩ := fG_ref (by decide) g4
  obtain ⟨m1, m2, m3, m4⟩ := hM
  obtain ⟨a0, c0, fs0, w0, e1, s0, t0, e4⟩ := m1 (0, 6, 4) (List.mem_of_getElem? (i := 0) rfl)
  obtain rfl : x0 = a0 := Sum.inl.inj (Option.some.inj (Sum.inr.inj (Sum.inr.inj (Option.some.inj (show some (fR x0) = some _ from e1)))))
  obtain rfl : fR x4 = w0 := Option.some.inj (show some (fR x4) = some w0 from e4)
  clear e1 e4
  obtain ⟨a, mc0, ty0, gc0, ic0, e1, sc0, jc0, e4, e5⟩ := m2 (4, ([(2, 1)], 0), 3) (List.mem_of_getElem? (i := 0) rfl)
  obtain rfl : x4 = a := Sum.inl.inj (Option.some.inj (Sum.inr.inj (Sum.inr.inj (Option.some.inj (show some (fR x4) = some _ from e1)))))
  obtain ⟨gc0, rfl⟩ : ∃ g, gc0 = .inl g := by
    rcases gc0 with g | g
    · exact ⟨g, rfl⟩
    · exact absurd (show some (fI x3) = some (.inr (.inl (g ic0))) from e5) (fun h => by cases h)
  have sc0 : σ x4 = .inl (ty0, mc0, .inl gc0) := sc0
  have ec0 : x3 = gc0 ic0 := Sum.inl.inj (Option.some.inj (show some (fI x3) = some _ from e5))
  have kc0 : (ic0 : Int) = (1 * x2.toInt + 0) + 0 := by
    obtain ⟨z, e6, e7⟩ := e4
    obtain rfl : (1 * x2.toInt + 0) = z := Option.some.inj (show some (1 * x2.toInt + 0) = some z from e6)
    exact e7
  clear e1 e4 e5
  obtain rfl : ic0 = x2.toInt.toNat := by omega
  have f0 : fB K n p 117 [fR x0, fI x2, fI x1] σ := by
    obtain ⟨w, e6, e7⟩ := m4 (1875, [0, 2, 1]) (List.mem_of_getElem? (i := 0) rfl)
    obtain rfl : [fR x0, fI x2, fI x1] = w := Option.some.inj (show some [fR x0, fI x2, fI x1] = some w from e6)
    exact (fF_b (r := 1875) (by decide) rfl).mp e7
  clear m1 m2 m3 m4
  obtain ⟨a7, o7, nd7, N7, pa7, fi7, af7, M7, e7, w7, y7, z7, u7, c7, m7⟩ := f0
  cases e7
  obtain rfl := fRo_c z7 s0 t0 sc0
  have q0 : fB K n (p) 117 [fR x0, fI x3, fI x1] σ := by
    cases M7 with
    | nil => have h9 : x2.toInt = 0 := c7; exact absurd h9 (by omega)
    | cons c r =>
      have hc : x2.toInt = (c : Int) := c7.1
      refine ⟨_, _, _, N7, pa7, fi7, _, r, rfl, w7, y7, z7, u7, ?_, fun d hd => m7 d (List.mem_cons_of_mem _ hd)⟩
      rw [ec0, show x2.toInt.toNat = c by omega]
      exact c7.2
  exact ⟨p, fun _ => rfl, ⟨(fun q h => by cases h), fun q h => (by cases h), (fun f h => by cases h), (aAllc ⟨_, rfl, (fF_b (r := 1875) (by decide) rfl).mpr q0⟩ (fun f h => by cases h))⟩, [], List.mem_cons_self, fun f h => (by cases h)⟩
set_option maxRecDepth 8192 in
theorem rw_ruWX {K : Nat → Nat} {n : Nat} : aGho (fF K n) fa_T K n (fJX K n) ag_ruWX := by
  refine aGho_of ⟨rfl, rfl⟩ ?_
  intro p σ ρ hH hX hA hM
  have hG := aAG_of hA.1 (fun i e v he hv => (hA.2 i e v he hv).1)
  clear hA
  obtain ⟨v0, v1, v2, v3, v4, v5, v6, rfl, g0, g1, g2, g3, g4, g5, g6⟩ := fA_7 hG
  clear hG
  obtain ⟨x0, rfl, b0, d0⟩ := fG_ref (by decide) g0
  obtain ⟨x1, rfl, b1, d1⟩ := aG_int g1
  dsimp only at b1 d1
  obtain ⟨x2, rfl, b2, d2⟩ := aG_int g2
  dsimp only at b2 d2
  obtain ⟨x3, rfl, b3, d3⟩ := aG_int g3
  dsimp only at b3 d3
  obtain ⟨x4, rfl, b4, d4⟩ := aG_int g4
  dsimp only at b4 d4
  obtain ⟨x5, rfl, b5, d5⟩ := fG_ref (by decide) g5
  obtain ⟨x6, rfl, b6, d6⟩ := aG_int g6
  dsimp only at b6 d6
  obtain ⟨m1, m2, m3, m4⟩ := hM
  have f0 : fB K n p 1 [fR x5] σ := by
    obtain ⟨w, e6, e7⟩ := m4 (17, [5]) (List.mem_of_getElem? (i := 0) rfl)
    obtain rfl : [fR x5] = w := Option.some.inj (show some [fR x5] = some w from e6)
    exact (fF_b (r := 17) (by decide) rfl).mp e7
  have f1 : fB K n p 67 [fR x0, fI x1, fI x2, fI x3, fI x4] σ := by
    obtain ⟨w, e6, e7⟩ := m4 (1077, [0, 1, 2, 3, 4]) (List.mem_of_getElem? (i := 1) rfl)
    obtain rfl : [fR x0, fI x1, fI x2, fI x3, fI x4] = w := Option.some.inj (show some [fR x0, fI x1, fI x2, fI x3, fI x4] = some w from e6)
    exact (fF_b (r := 1077) (by decide) rfl).mp e7
  have f2 : fB K n p 117 [fR x0, fI x6, fI x2] σ := by
    obtain ⟨w, e6, e7⟩ := m4 (1875, [0, 6, 2]) (List.mem_of_getElem? (i := 2) rfl)
    obtain rfl : [fR x0, fI x6, fI x2] = w := Option.some.inj (show some [fR x0, fI x6, fI x2] = some w from e6)
    exact (fF_b (r := 1875) (by decide) rfl).mp e7
  clear m1 m2 m3 m4
  obtain ⟨a9, e9, A, hg9, q9, hq9⟩ := f0
  cases e9
  obtain ⟨a, hd, nd, ls, len, N, t, h, h0, e, w, u1, N0, ⟨q, hq⟩, H, hn, hs, hl, l0⟩ := f1
  cases e
  subst hq
  obtain ⟨n1, n2, n3⟩ := hn.resolve_left (by omega)
  obtain ⟨a7, o7, nd7, N7, pa7, fi7, af7, M7, e7, w7, y7, z7, u7, c7, m7⟩ := f2
  cases e7
  obtain ⟨i1, i2, i3⟩ : 1 ≤ x6.toInt.toNat ∧ (x6.toInt.toNat : Int) ≤ N7.toInt ∧ pa7 x6.toInt.toNat = pa7 x2.toInt.toNat := by
    cases M7 with
    | nil => have h9 : x6.toInt = 0 := c7; exact absurd h9 (by omega)
    | cons c r =>
      have hc : x6.toInt = (c : Int) := c7.1
      rw [show x6.toInt.toNat = c by omega]
      exact m7 c List.mem_cons_self
  obtain rfl := fRo_u w7 w.1
  have eN : N = N7 := by obtain ⟨_, _, fs9, hs9, ht9⟩ := u1; exact fFi_i u7 hs9 ht9
  subst eN
  have q0 : fB K n (.inl q) 116 [fR x0, fR x5, fI x6] σ := by
    refine ⟨_, _, _, _, t, q, rfl, w, u1, by omega, by omega, by rw [i3]; omega, ?_, A⟩
    rw [i3, n3]
    exact H
  exact ⟨.inl q, fun _ => rfl, ⟨(fun q h => by cases h), fun q h => (by cases h), (fun f h => by cases h), (aAllc ⟨_, rfl, (fF_b (r := 1859) (by decide) rfl).mpr q0⟩ (fun f h => by cases h))⟩, [], List.mem_cons_self, fun f h => (by cases h)⟩
set_option maxRecDepth 8192 in
theorem rw_ruWB {K : Nat → Nat} {n : Nat} : aGho (fF K n) fa_T K n (fJX K n) ag_ruWB := by
  refine aGho_of ⟨rfl, rfl⟩ ?_
  intro p σ ρ hH hX hA hM
  have hG := aAG_of hA.1 (fun i e v he hv => (hA.2 i e v he hv).1)
  clear hA
  obtain ⟨v0, v1, v2, v3, v4, v5, v6, rfl, g0, g1, g2, g3, g4, g5, g6⟩ := fA_7 hG
  clear hG
  obtain ⟨x0, rfl, b0, d0⟩ := fG_ref (by decide) g0
  obtain ⟨x1, rfl, b1, d1⟩ := aG_int g1
  dsimp only at b1 d1
  obtain ⟨x2, rfl, b2, d2⟩ := aG_int g2
  dsimp only at b2 d2
  obtain ⟨x3, rfl, b3, d3⟩ := aG_int g3
  dsimp only at b3 d3
  obtain ⟨x4, rfl, b4, d4⟩ := aG_int g4
  dsimp only at b4 d4
  obtain ⟨x5, rfl, b5, d5⟩ := fG_ref (by decide) g5
  obtain ⟨x6, rfl, b6, d6⟩ := aG_int g6
  dsimp only at b6 d6
  obtain ⟨m1, m2, m3, m4⟩ := hM
  have f0 : fB K n p 116 [fR x0, fR x5, fI x6] σ := by
    obtain ⟨w, e6, e7⟩ := m4 (1859, [0, 5, 6]) (List.mem_of_getElem? (i := 0) rfl)
    obtain rfl : [fR x0, fR x5, fI x6] = w := Option.some.inj (show some [fR x0, fR x5, fI x6] = some w from e6)
    exact (fF_b (r := 1859) (by decide) rfl).mp e7
  have f1 : fB K n p 117 [fR x0, fI x6, fI x2] σ := by
    obtain ⟨w, e6, e7⟩ := m4 (1875, [0, 6, 2]) (List.mem_of_getElem? (i := 1) rfl)
    obtain rfl : [fR x0, fI x6, fI x2] = w := Option.some.inj (show some [fR x0, fI x6, fI x2] = some w from e6)
    exact (fF_b (r := 1875) (by decide) rfl).mp e7
  have f2 : fB K n p 119 [fR x0, fI x1, fI x2, fI x3, fI x4] σ := by
    obtain ⟨w, e6, e7⟩ := m4 (1909, [0, 1, 2, 3, 4]) (List.mem_of_getElem? (i := 2) rfl)
    obtain rfl : [fR x0, fI x1, fI x2, fI x3, fI x4] = w := Option.some.inj (show some [fR x0, fI x1, fI x2, fI x3, fI x4] = some w from e6)
    exact (fF_b (r := 1909) (by decide) rfl).mp e7
  clear m1 m2 m3 m4
  obtain ⟨a, b, c, N, t, q, e, w, u1, l1, l2, l3, H, A⟩ := f0
  cases e
  obtain ⟨a7, o7, nd7, N7, pa7, fi7, af7, M7, e7, w7, y7, z7, u7, c7, m7⟩ := f1
  cases e7
  obtain ⟨i1, i2, i3⟩ : 1 ≤ x6.toInt.toNat ∧ (x6.toInt.toNat : Int) ≤ N7.toInt ∧ pa7 x6.toInt.toNat = pa7 x2.toInt.toNat := by
    cases M7 with
    | nil => have h9 : x6.toInt = 0 := c7; exact absurd h9 (by omega)
    | cons c r =>
      have hc : x6.toInt = (c : Int) := c7.1
      rw [show x6.toInt.toNat = c by omega]
      exact m7 c List.mem_cons_self
  obtain ⟨a8, hd8, nd8, ls8, len8, N8, pa8, h8, h80, e8, w8, u8, n8a, n8b, n8c, s8, l8a, l8b⟩ := f2
  cases e8
  obtain rfl := fRo_u w7 w.1
  obtain rfl := fRo_u w8 w.1
  have eN : N = N8 := by obtain ⟨_, _, fs9, hs9, ht9⟩ := u1; exact fFi_i u8 hs9 ht9
  subst eN
  have q0 : fB K n (.inl q) 1 [fR x5] σ := by
    exact ⟨_, rfl, A, (fTk_good H).1, q, rfl⟩
  have q1 : fB K n (.inl q) 67 [fR x0, fI x1, fI x2, fI x3, fI x4] σ := by
    refine ⟨_, _, _, _, _, _, t, h8, h80, rfl, w, u1, by omega, ⟨q, rfl⟩, ?_, Or.inr ⟨n8a, n8b, n8c⟩, s8, l8a, l8b⟩
    rw [i3, n8c] at H
    exact H
  exact ⟨.inl q, fun h => (by cases h), ⟨(fun q h => by cases h), fun q h => (by cases h), (fun f h => by cases h), (aAllc ⟨_, rfl, (fF_b (r := 17) (by decide) rfl).mpr q0⟩ (aAllc ⟨_, rfl, (fF_b (r := 1077) (by decide) rfl).mpr q1⟩ (fun f h => by cases h)))⟩, [], List.mem_cons_self, fun f h => (by cases h)⟩
set_option maxRecDepth 8192 in
theorem rw_ruWS {K : Nat → Nat} {n : Nat} : aGho (fF K n) fa_T K n (fJX K n) ag_ruWS := by
  refine aGho_of ⟨rfl, rfl⟩ ?_
  intro p σ ρ hH hX hA hM
  have hG := aAG_of hA.1 (fun i e v he hv => (hA.2 i e v he hv).1)
  clear hA
  obtain ⟨v0, v1, v2, v3, v4, v5, v6, v7, v8, rfl, g0, g1, g2, g3, g4, g5, g6, g7, g8⟩ := fA_9 hG
  clear hG
  obtain ⟨x0, rfl, b0, d0⟩ := fG_ref (by decide) g0
  obtain ⟨x1, rfl, b1, d1⟩ := aG_int g1
  dsimp only at b1 d1
  obtain ⟨x2, rfl, b2, d2⟩ := aG_int g2
  dsimp only at b2 d2
  obtain ⟨x3, rfl, b3, d3⟩ := aG_int g3
  dsimp only at b3 d3
  obtain ⟨x4, rfl, b4, d4⟩ := aG_int g4
  dsimp only at b4 d4
  obtain ⟨x5, rfl, b5, d5⟩ := aG_int g5
  dsimp only at b5 d5
  obtain ⟨x6, rfl⟩ := aG_lng g6
  obtain ⟨x7, rfl, b7, d7⟩ := fG_ref (by decide) g7
  obtain ⟨x8, rfl, b8, d8⟩ := fG_ref (by decide) g8
  obtain ⟨m1, m2, m3, m4⟩ := hM
  obtain ⟨a0, c0, fs0, w0, e1, s0, t0, e4⟩ := m1 (0, 7, 7) (List.mem_of_getElem? (i := 0) rfl)
  obtain rfl : x0 = a0 := Sum.inl.inj (Option.some.inj (Sum.inr.inj (Sum.inr.inj (Option.some.inj (show some (fR x0) = some _ from e1)))))
  obtain rfl : fR x7 = w0 := Option.some.inj (show some (fR x7) = some w0 from e4)
  clear e1 e4
  obtain ⟨a1, c1, fs1, w1, e1, s1, t1, e4⟩ := m1 (0, 4, 8) (List.mem_of_getElem? (i := 1) rfl)
  obtain rfl : x0 = a1 := Sum.inl.inj (Option.some.inj (Sum.inr.inj (Sum.inr.inj (Option.some.inj (show some (fR x0) = some _ from e1)))))
  obtain rfl : fR x8 = w1 := Option.some.inj (show some (fR x8) = some w1 from e4)
  clear e1 e4
  obtain ⟨a, mc0, ty0, gc0, ic0, e1, sc0, jc0, e4, e5⟩ := m2 (8, ([(2, 1)], 0), 5) (List.mem_of_getElem? (i := 0) rfl)
  obtain rfl : x8 = a := Sum.inl.inj (Option.some.inj (Sum.inr.inj (Sum.inr.inj (Option.some.inj (show some (fR x8) = some _ from e1)))))
  obtain ⟨gc0, rfl⟩ : ∃ g, gc0 = .inl g := by
    rcases gc0 with g | g
    · exact ⟨g, rfl⟩
    · exact absurd (show some (fI x5) = some (.inr (.inl (g ic0))) from e5) (fun h => by cases h)
  have sc0 : σ x8 = .inl (ty0, mc0, .inl gc0) := sc0
  have ec0 : x5 = gc0 ic0 := Sum.inl.inj (Option.some.inj (show some (fI x5) = some _ from e5))
  have kc0 : (ic0 : Int) = (1 * x2.toInt + 0) + 0 := by
    obtain ⟨z, e6, e7⟩ := e4
    obtain rfl : (1 * x2.toInt + 0) = z := Option.some.inj (show some (1 * x2.toInt + 0) = some z from e6)
    exact e7
  clear e1 e4 e5
  obtain rfl : ic0 = x2.toInt.toNat := by omega
  have f0 : fB K n p 4 [fI x5, (.inr (.inl x6) : jv)] σ := by
    obtain ⟨w, e6, e7⟩ := m4 (66, [5, 6]) (List.mem_of_getElem? (i := 0) rfl)
    obtain rfl : [fI x5, (.inr (.inl x6) : jv)] = w := Option.some.inj (show some [fI x5, (.inr (.inl x6) : jv)] = some w from e6)
    exact (fF_b (r := 66) (by decide) rfl).mp e7
  have f1 : fB K n p 3 [fI x5] σ := by
    obtain ⟨w, e6, e7⟩ := m4 (49, [5]) (List.mem_of_getElem? (i := 1) rfl)
    obtain rfl : [fI x5] = w := Option.some.inj (show some [fI x5] = some w from e6)
    exact (fF_b (r := 49) (by decide) rfl).mp e7
  have f2 : fB K n p 67 [fR x0, fI x1, fI x2, fI x3, fI x4] σ := by
    obtain ⟨w, e6, e7⟩ := m4 (1077, [0, 1, 2, 3, 4]) (List.mem_of_getElem? (i := 2) rfl)
    obtain rfl : [fR x0, fI x1, fI x2, fI x3, fI x4] = w := Option.some.inj (show some [fR x0, fI x1, fI x2, fI x3, fI x4] = some w from e6)
    exact (fF_b (r := 1077) (by decide) rfl).mp e7
  clear m1 m2 m3 m4
  obtain ⟨mu, u, eu, hu1, hu2, -⟩ := f0
  cases eu
  obtain ⟨a, hd, nd, ls, len, N, t, h, h0, e, w, u1, N0, ⟨q, hq⟩, H, hn, hs, hl, l0⟩ := f2
  cases e
  subst hq
  obtain ⟨n1, n2, n3⟩ := hn.resolve_left (by omega)
  obtain rfl := fRo_c w.2.1 s1 t1 sc0
  have q0 : fB K n (fSh (.inl q) [fI x5]) 68 [fR x0, fI x1, fI x2, fI x4] (jup σ x7 (jstl (σ x7) x2.toNatClampNeg x6)) := by
    have hg : ¬ K x7 = 25 := by rw [d7]; decide
    have hk : ∀ k, ¬ k = 42 → ¬ K x7 = k := fun k h e => h (by rw [← e]; exact d7)
    obtain ⟨s1, s2, s3, s4, s5, s6⟩ := hs
    refine ⟨_, _, _, _, N, (t.1, t.2.1, t.2.2.1, t.2.2.2.1, vp_updL t.2.2.2.2 x2.toInt.toNat x6), h0, rfl, ⟨fRo_ne w.1 hg (hk _ (by decide)), fRo_ne w.2.1 hg (hk _ (by decide)), fRo_ne w.2.2.1 hg (hk _ (by decide)), fRo_ne w.2.2.2.1 hg (hk _ (by decide)), fRl_st w.2.2.2.2 s0 t0⟩, fFi_ne u1 hg, N0, ⟨_, rfl⟩, ?_, by omega, ⟨by omega, ?_, fun j hj => ?_, s4, s5, s6⟩, l0⟩
    · have hd := fTk_dn H (c := x2.toInt.toNat) (by omega) (by omega) n3 (u := x6) (by rw [← ec0]; exact ⟨hu1, hu2⟩)
      rw [← ec0] at hd
      exact hd
    · rw [fUp_s]
      dsimp only
      rw [show (t.1 x2.toInt.toNat).toInt.toNat = h by omega]
      exact s2
    · cases j with
      | zero => rw [fUp_z]; omega
      | succ j =>
        rw [fUp_s]
        dsimp only
        rw [show (t.1 x2.toInt.toNat).toInt.toNat = h by omega]
        exact s3 j (by omega)
  exact ⟨.inl q, fun _ => rfl, ⟨(fun q h => by cases h), fun q h => (by cases h), (fun f h => by cases h), (aAllc ⟨_, rfl, fF_pl (r := 1092) (by decide) (by decide) (Nat.le_of_ble_eq_true rfl) q0⟩ (fun f h => by cases h))⟩, [], List.mem_cons_self, fun f h => (by cases h)⟩
set_option maxRecDepth 8192 in
theorem rw_ruWF {K : Nat → Nat} {n : Nat} : aGho (fF K n) fa_T K n (fJX K n) ag_ruWF := by
  refine aGho_of ⟨rfl, rfl⟩ ?_
  intro p σ ρ hH hX hA hM
  have hG := aAG_of hA.1 (fun i e v he hv => (hA.2 i e v he hv).1)
  clear hA
  obtain ⟨v0, v1, v2, v3, v4, rfl, g0, g1, g2, g3, g4⟩ := fA_5 hG
  clear hG
  obtain ⟨x0, rfl, b0, d0⟩ := fG_ref (by decide) g0
  obtain ⟨x1, rfl, b1, d1⟩ := aG_int g1
  dsimp only at b1 d1
  obtain ⟨x2, rfl, b2, d2⟩ := aG_int g2
  dsimp only at b2 d2
  obtain ⟨x3, rfl, b3, d3⟩ := aG_int g3
  dsimp only at b3 d3
  obtain ⟨x4, rfl, b4, d4⟩ := fG_ref (by decide) g4
  obtain ⟨m1, m2, m3, m4⟩ := hM
  have f0 : fB K n p 1 [fR x4] σ := by
    obtain ⟨w, e6, e7⟩ := m4 (17, [4]) (List.mem_of_getElem? (i := 0) rfl)
    obtain rfl : [fR x4] = w := Option.some.inj (show some [fR x4] = some w from e6)
    exact (fF_b (r := 17) (by decide) rfl).mp e7
  have f1 : fB K n p 68 [fR x0, fI x1, fI x2, fI x3] σ := by
    obtain ⟨w, e6, e7⟩ := m4 (1092, [0, 1, 2, 3]) (List.mem_of_getElem? (i := 1) rfl)
    obtain rfl : [fR x0, fI x1, fI x2, fI x3] = w := Option.some.inj (show some [fR x0, fI x1, fI x2, fI x3] = some w from e6)
    exact (fF_b (r := 1092) (by decide) rfl).mp e7
  clear m1 m2 m3 m4
  have q0 : fB K n (p) 1 [fR x4] σ := by
    exact f0
  have q1 : fB K n (p) 68 [fR x0, fI x1, fI x2, fI x3] σ := by
    exact f1
  exact ⟨p, fun h => (by cases h), ⟨(fun q h => by cases h), fun q h => (by cases h), (fun f h => by cases h), (aAllc ⟨_, rfl, (fF_b (r := 17) (by decide) rfl).mpr q0⟩ (aAllc ⟨_, rfl, (fF_b (r := 1092) (by decide) rfl).mpr q1⟩ (fun f h => by cases h)))⟩, [], List.mem_cons_self, fun f h => (by cases h)⟩
set_option maxRecDepth 8192 in
theorem rw_ruWN {K : Nat → Nat} {n : Nat} : aGho (fF K n) fa_T K n (fJX K n) ag_ruWN := by
  refine aGho_of ⟨rfl, rfl⟩ ?_
  intro p σ ρ hH hX hA hM
  have hG := aAG_of hA.1 (fun i e v he hv => (hA.2 i e v he hv).1)
  clear hA
  obtain ⟨v0, v1, v2, v3, v4, v5, v6, rfl, g0, g1, g2, g3, g4, g5, g6⟩ := fA_7 hG
  clear hG
  obtain ⟨x0, rfl, b0, d0⟩ := fG_ref (by decide) g0
  obtain ⟨x1, rfl, b1, d1⟩ := aG_int g1
  dsimp only at b1 d1
  obtain ⟨x2, rfl, b2, d2⟩ := aG_int g2
  dsimp only at b2 d2
  obtain ⟨x3, rfl, b3, d3⟩ := aG_int g3
  dsimp only at b3 d3
  obtain ⟨x4, rfl, b4, d4⟩ := aG_int g4
  dsimp only at b4 d4
  obtain ⟨x5, rfl, b5, d5⟩ := aG_int g5
  dsimp only at b5 d5
  obtain ⟨x6, rfl, b6, d6⟩ := fG_ref (by decide) g6
  obtain ⟨m1, m2, m3, m4⟩ := hM
  obtain ⟨a0, c0, fs0, w0, e1, s0, t0, e4⟩ := m1 (0, 5, 6) (List.mem_of_getElem? (i := 0) rfl)
  obtain rfl : x0 = a0 := Sum.inl.inj (Option.some.inj (Sum.inr.inj (Sum.inr.inj (Option.some.inj (show some (fR x0) = some _ from e1)))))
  obtain rfl : fR x6 = w0 := Option.some.inj (show some (fR x6) = some w0 from e4)
  clear e1 e4
  obtain ⟨a, mc0, ty0, gc0, ic0, e1, sc0, jc0, e4, e5⟩ := m2 (6, ([(2, 1)], 0), 4) (List.mem_of_getElem? (i := 0) rfl)
  obtain rfl : x6 = a := Sum.inl.inj (Option.some.inj (Sum.inr.inj (Sum.inr.inj (Option.some.inj (show some (fR x6) = some _ from e1)))))
  obtain ⟨gc0, rfl⟩ : ∃ g, gc0 = .inl g := by
    rcases gc0 with g | g
    · exact ⟨g, rfl⟩
    · exact absurd (show some (fI x4) = some (.inr (.inl (g ic0))) from e5) (fun h => by cases h)
  have sc0 : σ x6 = .inl (ty0, mc0, .inl gc0) := sc0
  have ec0 : x4 = gc0 ic0 := Sum.inl.inj (Option.some.inj (show some (fI x4) = some _ from e5))
  have kc0 : (ic0 : Int) = (1 * x2.toInt + 0) + 0 := by
    obtain ⟨z, e6, e7⟩ := e4
    obtain rfl : (1 * x2.toInt + 0) = z := Option.some.inj (show some (1 * x2.toInt + 0) = some z from e6)
    exact e7
  clear e1 e4 e5
  obtain rfl : ic0 = x2.toInt.toNat := by omega
  have l0 : 0 ≤ (1 * x5.toInt + (-1 * x3.toInt + 0)) + -1 := by
    obtain ⟨z, e6, e7⟩ := m3 ([(5, 1), (3, -1)], -1) (List.mem_of_getElem? (i := 0) rfl)
    obtain rfl : (1 * x5.toInt + (-1 * x3.toInt + 0)) = z := Option.some.inj (show some (1 * x5.toInt + (-1 * x3.toInt + 0)) = some z from e6)
    exact e7
  have l1 : 0 ≤ (-1 * x5.toInt + (1 * x3.toInt + 0)) + 1 := by
    obtain ⟨z, e6, e7⟩ := m3 ([(5, -1), (3, 1)], 1) (List.mem_of_getElem? (i := 1) rfl)
    obtain rfl : (-1 * x5.toInt + (1 * x3.toInt + 0)) = z := Option.some.inj (show some (-1 * x5.toInt + (1 * x3.toInt + 0)) = some z from e6)
    exact e7
  have f0 : fB K n p 68 [fR x0, fI x1, fI x2, fI x3] σ := by
    obtain ⟨w, e6, e7⟩ := m4 (1092, [0, 1, 2, 3]) (List.mem_of_getElem? (i := 0) rfl)
    obtain rfl : [fR x0, fI x1, fI x2, fI x3] = w := Option.some.inj (show some [fR x0, fI x1, fI x2, fI x3] = some w from e6)
    exact (fF_b (r := 1092) (by decide) rfl).mp e7
  clear m1 m2 m3 m4
  obtain ⟨a, hd, nd, len, N, t, h0, e, w, u1, N0, ⟨q, hq⟩, H, n1, hs, l0⟩ := f0
  cases e
  subst hq
  obtain rfl := fRo_c w.2.2.1 s0 t0 sc0
  obtain ⟨L, L1, L2, L3⟩ := fTk_ch H (k := x2.toInt.toNat) (fTk_le H)
  rw [← ec0] at L2
  have q0 : fB K n (.inl q) 67 [fR x0, fI x1, fI x4, fI x2, fI x5] σ := by
    refine ⟨_, _, _, _, _, N, t, x2.toInt.toNat, h0, rfl, w, u1, N0, ⟨q, rfl⟩, H, ?_, ?_, fun _ => by omega, by omega⟩
    · cases L with
      | nil => exact Or.inl L2
      | cons c r =>
        have hc : x4.toInt = (c : Int) := L2.1
        obtain ⟨y1, y2, y3⟩ := L3 c List.mem_cons_self
        exact Or.inr ⟨by omega, by omega, by rw [show x4.toInt.toNat = c by omega]; exact y3⟩
    · rw [show x5.toInt.toNat = x3.toInt.toNat + 1 by omega]
      exact hs
  exact ⟨.inl q, fun _ => rfl, ⟨(fun q h => by cases h), fun q h => (by cases h), (fun f h => by cases h), (aAllc ⟨_, rfl, (fF_b (r := 1077) (by decide) rfl).mpr q0⟩ (fun f h => by cases h))⟩, [], List.mem_cons_self, fun f h => (by cases h)⟩
set_option maxRecDepth 8192 in
theorem rw_ruWV {K : Nat → Nat} {n : Nat} : aGho (fF K n) fa_T K n (fJX K n) ag_ruWV := by
  refine aGho_of ⟨rfl, rfl⟩ ?_
  intro p σ ρ hH hX hA hM
  have hG := aAG_of hA.1 (fun i e v he hv => (hA.2 i e v he hv).1)
  clear hA
  obtain ⟨v0, v1, v2, v3, v4, rfl, g0, g1, g2, g3, g4⟩ := fA_5 hG
  clear hG
  obtain ⟨x0, rfl, b0, d0⟩ := fG_ref (by decide) g0
  obtain ⟨x1, rfl, b1, d1⟩ := aG_int g1
  dsimp only at b1 d1
  obtain ⟨x2, rfl, b2, d2⟩ := aG_int g2
  dsimp only at b2 d2
  obtain ⟨x3, rfl, b3, d3⟩ := aG_int g3
  dsimp only at b3 d3
  obtain ⟨x4, rfl, b4, d4⟩ := aG_int g4
  dsimp only at b4 d4
  obtain ⟨m1, m2, m3, m4⟩ := hM
  have f0 : fB K n p 67 [fR x0, fI x1, fI x2, fI x3, fI x4] σ := by
    obtain ⟨w, e6, e7⟩ := m4 (1077, [0, 1, 2, 3, 4]) (List.mem_of_getElem? (i := 0) rfl)
    obtain rfl : [fR x0, fI x1, fI x2, fI x3, fI x4] = w := Option.some.inj (show some [fR x0, fI x1, fI x2, fI x3, fI x4] = some w from e6)
    exact (fF_b (r := 1077) (by decide) rfl).mp e7
  clear m1 m2 m3 m4
  obtain ⟨a, hd, nd, ls, len, N, t, h, h0, e, w, u1, N0, ⟨q, hq⟩, H, hn, hs, hl, l0⟩ := f0
  cases e
  subst hq
  have q0 : fB K n (.inl q) 69 [fR x0, fI x1, fI x3, fI x4] σ := by
    exact ⟨_, _, _, _, N, t, h, h0, rfl, w, u1, N0, ⟨q, rfl⟩, H, hs, hl, l0⟩
  exact ⟨.inl q, fun _ => rfl, ⟨(fun q h => by cases h), fun q h => (by cases h), (fun f h => by cases h), (aAllc ⟨_, rfl, (fF_b (r := 1108) (by decide) rfl).mpr q0⟩ (fun f h => by cases h))⟩, [], List.mem_cons_self, fun f h => (by cases h)⟩
set_option maxRecDepth 8192 in
theorem rw_ruWD {K : Nat → Nat} {n : Nat} : aGho (fF K n) fa_T K n (fJX K n) ag_ruWD := by
  refine aGho_of ⟨rfl, rfl⟩ ?_
  intro p σ ρ hH hX hA hM
  have hG := aAG_of hA.1 (fun i e v he hv => (hA.2 i e v he hv).1)
  clear hA
  obtain ⟨v0, v1, v2, v3, v4, v5, v6, v7, v8, rfl, g0, g1, g2, g3, g4, g5, g6, g7, g8⟩ := fA_9 hG
  clear hG
  obtain ⟨x0, rfl, b0, d0⟩ := fG_ref (by decide) g0
  obtain ⟨x1, rfl, b1, d1⟩ := aG_int g1
  dsimp only at b1 d1
  obtain ⟨x2, rfl, b2, d2⟩ := aG_int g2
  dsimp only at b2 d2
  obtain ⟨x3, rfl, b3, d3⟩ := aG_int g3
  dsimp only at b3 d3
  obtain ⟨x4, rfl, b4, d4⟩ := fG_ref (by decide) g4
  obtain ⟨x5, rfl, b5, d5⟩ := aG_int g5
  dsimp only at b5 d5
  obtain ⟨x6, rfl⟩ := aG_lng g6
  obtain ⟨x7, rfl, b7, d7⟩ := fG_ref (by decide) g7
  obtain ⟨x8, rfl, b8, d8⟩ := fG_ref (by decide) g8
  obtain ⟨m1, m2, m3, m4⟩ := hM
  obtain ⟨a0, c0, fs0, w0, e1, s0, t0, e4⟩ := m1 (0, 4, 7) (List.mem_of_getElem? (i := 0) rfl)
  obtain rfl : x0 = a0 := Sum.inl.inj (Option.some.inj (Sum.inr.inj (Sum.inr.inj (Option.some.inj (show some (fR x0) = some _ from e1)))))
  obtain rfl : fR x7 = w0 := Option.some.inj (show some (fR x7) = some w0 from e4)
  clear e1 e4
  obtain ⟨a1, c1, fs1, w1, e1, s1, t1, e4⟩ := m1 (0, 7, 8) (List.mem_of_getElem? (i := 1) rfl)
  obtain rfl : x0 = a1 := Sum.inl.inj (Option.some.inj (Sum.inr.inj (Sum.inr.inj (Option.some.inj (show some (fR x0) = some _ from e1)))))
  obtain rfl : fR x8 = w1 := Option.some.inj (show some (fR x8) = some w1 from e4)
  clear e1 e4
  obtain ⟨a, mc0, ty0, gc0, ic0, e1, sc0, jc0, e4, e5⟩ := m2 (7, ([(2, 1)], 0), 5) (List.mem_of_getElem? (i := 0) rfl)
  obtain rfl : x7 = a := Sum.inl.inj (Option.some.inj (Sum.inr.inj (Sum.inr.inj (Option.some.inj (show some (fR x7) = some _ from e1)))))
  obtain ⟨gc0, rfl⟩ : ∃ g, gc0 = .inl g := by
    rcases gc0 with g | g
    · exact ⟨g, rfl⟩
    · exact absurd (show some (fI x5) = some (.inr (.inl (g ic0))) from e5) (fun h => by cases h)
  have sc0 : σ x7 = .inl (ty0, mc0, .inl gc0) := sc0
  have ec0 : x5 = gc0 ic0 := Sum.inl.inj (Option.some.inj (show some (fI x5) = some _ from e5))
  have kc0 : (ic0 : Int) = (1 * x2.toInt + 0) + 0 := by
    obtain ⟨z, e6, e7⟩ := e4
    obtain rfl : (1 * x2.toInt + 0) = z := Option.some.inj (show some (1 * x2.toInt + 0) = some z from e6)
    exact e7
  clear e1 e4 e5
  obtain rfl : ic0 = x2.toInt.toNat := by omega
  obtain ⟨a, mc1, ty1, gc1, ic1, e1, sc1, jc1, e4, e5⟩ := m2 (8, ([(2, 1)], 0), 6) (List.mem_of_getElem? (i := 1) rfl)
  obtain rfl : x8 = a := Sum.inl.inj (Option.some.inj (Sum.inr.inj (Sum.inr.inj (Option.some.inj (show some (fR x8) = some _ from e1)))))
  obtain ⟨gc1, rfl⟩ : ∃ g, gc1 = .inr g := by
    rcases gc1 with g | g
    · exact absurd (show some ((.inr (.inl x6) : jv)) = some (.inl (g ic1)) from e5) (fun h => by cases h)
    · exact ⟨g, rfl⟩
  have sc1 : σ x8 = .inl (ty1, mc1, .inr (.inl gc1)) := sc1
  have ec1 : x6 = gc1 ic1 := Sum.inl.inj (Sum.inr.inj (Option.some.inj (show some ((.inr (.inl x6) : jv)) = some _ from e5)))
  have kc1 : (ic1 : Int) = (1 * x2.toInt + 0) + 0 := by
    obtain ⟨z, e6, e7⟩ := e4
    obtain rfl : (1 * x2.toInt + 0) = z := Option.some.inj (show some (1 * x2.toInt + 0) = some z from e6)
    exact e7
  clear e1 e4 e5
  obtain rfl : ic1 = x2.toInt.toNat := by omega
  have l0 : 0 ≤ (1 * x3.toInt + 0) + -1 := by
    obtain ⟨z, e6, e7⟩ := m3 ([(3, 1)], -1) (List.mem_of_getElem? (i := 0) rfl)
    obtain rfl : (1 * x3.toInt + 0) = z := Option.some.inj (show some (1 * x3.toInt + 0) = some z from e6)
    exact e7
  have f0 : fB K n p 1 [fR x4] σ := by
    obtain ⟨w, e6, e7⟩ := m4 (17, [4]) (List.mem_of_getElem? (i := 0) rfl)
    obtain rfl : [fR x4] = w := Option.some.inj (show some [fR x4] = some w from e6)
    exact (fF_b (r := 17) (by decide) rfl).mp e7
  have f1 : fB K n p 69 [fR x0, fI x1, fI x2, fI x3] σ := by
    obtain ⟨w, e6, e7⟩ := m4 (1108, [0, 1, 2, 3]) (List.mem_of_getElem? (i := 1) rfl)
    obtain rfl : [fR x0, fI x1, fI x2, fI x3] = w := Option.some.inj (show some [fR x0, fI x1, fI x2, fI x3] = some w from e6)
    exact (fF_b (r := 1108) (by decide) rfl).mp e7
  clear m1 m2 m3 m4
  obtain ⟨a9, e9, A, hg9, q9, hq9⟩ := f0
  cases e9
  obtain ⟨a, hd, ls, len, N, t, h, h0, e, w, u1, N0, ⟨q, hq⟩, H, hs, hl, l0⟩ := f1
  cases e
  subst hq
  obtain rfl := fRo_c w.2.1 s0 t0 sc0
  obtain rfl := fRl_c w.2.2.2.2 s1 t1 sc1
  have hlh : x2.toInt.toNat = h := by have := hl (by omega); omega
  obtain ⟨z1, z2, z3, z4, z5, z6⟩ := hs
  have hh1 : 1 ≤ h := by have h9 := z3 0 (by omega); rw [fUp_z] at h9; exact h9
  subst hlh
  obtain ⟨j, qq, j1, j2, j3, j4, j5, j6⟩ := fTk_up H hh1
  have q0 : fB K n (fSh (.inl qq) [fI x5]) 1 [fR x4] σ := by
    rw [ec0]
    have hj5 : q = fPl qq (t.2.1 x2.toInt.toNat) := j5
    have A2 : fAt K n σ x4 (fPl qq (t.2.1 x2.toInt.toNat)).1 (fPl qq (t.2.1 x2.toInt.toNat)).2 := by rw [← hj5]; exact A
    exact ⟨_, rfl, A2, by have := hg9; rw [show fq (.inl q : fP) = fPl qq (t.2.1 x2.toInt.toNat) from hj5] at this; exact this, _, rfl⟩
  have q1 : fB K n (.inl qq) 4 [fI x5, (.inr (.inl x6) : jv)] σ := by
    rw [ec0, ec1]
    exact ⟨_, _, rfl, j6.1, j6.2, (fTk_good j3).1, _, rfl⟩
  have q2 : fB K n (.inl qq) 3 [fI x5] σ := by
    rw [ec0]
    exact ⟨_, rfl, j4⟩
  have q3 : fB K n (.inl qq) 70 [fR x0, fI x1, fI x2, fI x3] σ := by
    refine ⟨_, _, _, _, N, t, h0, rfl, w, u1, N0, ⟨qq, rfl⟩, by omega, by omega, by rw [show (t.1 x2.toInt.toNat).toInt.toNat = j by omega]; exact j3, ?_⟩
    obtain ⟨k9, hk9⟩ : ∃ k, x3.toInt.toNat = k + 1 := ⟨x3.toInt.toNat - 1, by omega⟩
    rw [hk9, fUp_s] at z2
    rw [hk9, Nat.add_sub_cancel]
    exact ⟨by have := fTk_le j3; omega, z2, fun i hi => by have h9 := z3 (i + 1) (by omega); rw [fUp_s] at h9; exact h9, z4, z5, z6⟩
  exact ⟨.inl qq, fun h => (by cases h), ⟨(fun q h => by cases h), fun q h => (by cases h), (fun f h => by cases h), (aAllc ⟨_, rfl, (fF_g (r := 17) (by decide)).mpr q0⟩ (aAllc ⟨_, rfl, (fF_b (r := 66) (by decide) rfl).mpr q1⟩ (aAllc ⟨_, rfl, (fF_b (r := 49) (by decide) rfl).mpr q2⟩ (aAllc ⟨_, rfl, (fF_b (r := 1124) (by decide) rfl).mpr q3⟩ (fun f h => by cases h)))))⟩, [], List.mem_cons_self, fun f h => (by cases h)⟩
set_option maxRecDepth 8192 in
theorem rw_ruWT {K : Nat → Nat} {n : Nat} : aGho (fF K n) fa_T K n (fJX K n) ag_ruWT := by
  refine aGho_of ⟨rfl, rfl⟩ ?_
  intro p σ ρ hH hX hA hM
  have hG := aAG_of hA.1 (fun i e v he hv => (hA.2 i e v he hv).1)
  clear hA
  obtain ⟨v0, v1, v2, v3, v4, v5, v6, rfl, g0, g1, g2, g3, g4, g5, g6⟩ := fA_7 hG
  clear hG
  obtain ⟨x0, rfl, b0, d0⟩ := fG_ref (by decide) g0
  obtain ⟨x1, rfl, b1, d1⟩ := aG_int g1
  dsimp only at b1 d1
  obtain ⟨x2, rfl, b2, d2⟩ := aG_int g2
  dsimp only at b2 d2
  obtain ⟨x3, rfl, b3, d3⟩ := aG_int g3
  dsimp only at b3 d3
  obtain ⟨x4, rfl, b4, d4⟩ := aG_int g4
  dsimp only at b4 d4
  obtain ⟨x5, rfl, b5, d5⟩ := aG_int g5
  dsimp only at b5 d5
  obtain ⟨x6, rfl, b6, d6⟩ := fG_ref (by decide) g6
  obtain ⟨m1, m2, m3, m4⟩ := hM
  obtain ⟨a0, c0, fs0, w0, e1, s0, t0, e4⟩ := m1 (0, 3, 6) (List.mem_of_getElem? (i := 0) rfl)
  obtain rfl : x0 = a0 := Sum.inl.inj (Option.some.inj (Sum.inr.inj (Sum.inr.inj (Option.some.inj (show some (fR x0) = some _ from e1)))))
  obtain rfl : fR x6 = w0 := Option.some.inj (show some (fR x6) = some w0 from e4)
  clear e1 e4
  obtain ⟨a, mc0, ty0, gc0, ic0, e1, sc0, jc0, e4, e5⟩ := m2 (6, ([(2, 1)], 0), 4) (List.mem_of_getElem? (i := 0) rfl)
  obtain rfl : x6 = a := Sum.inl.inj (Option.some.inj (Sum.inr.inj (Sum.inr.inj (Option.some.inj (show some (fR x6) = some _ from e1)))))
  obtain ⟨gc0, rfl⟩ : ∃ g, gc0 = .inl g := by
    rcases gc0 with g | g
    · exact ⟨g, rfl⟩
    · exact absurd (show some (fI x4) = some (.inr (.inl (g ic0))) from e5) (fun h => by cases h)
  have sc0 : σ x6 = .inl (ty0, mc0, .inl gc0) := sc0
  have ec0 : x4 = gc0 ic0 := Sum.inl.inj (Option.some.inj (show some (fI x4) = some _ from e5))
  have kc0 : (ic0 : Int) = (1 * x2.toInt + 0) + 0 := by
    obtain ⟨z, e6, e7⟩ := e4
    obtain rfl : (1 * x2.toInt + 0) = z := Option.some.inj (show some (1 * x2.toInt + 0) = some z from e6)
    exact e7
  clear e1 e4 e5
  obtain rfl : ic0 = x2.toInt.toNat := by omega
  have l0 : 0 ≤ (1 * x5.toInt + (-1 * x3.toInt + 0)) + 1 := by
    obtain ⟨z, e6, e7⟩ := m3 ([(5, 1), (3, -1)], 1) (List.mem_of_getElem? (i := 0) rfl)
    obtain rfl : (1 * x5.toInt + (-1 * x3.toInt + 0)) = z := Option.some.inj (show some (1 * x5.toInt + (-1 * x3.toInt + 0)) = some z from e6)
    exact e7
  have l1 : 0 ≤ (-1 * x5.toInt + (1 * x3.toInt + 0)) + -1 := by
    obtain ⟨z, e6, e7⟩ := m3 ([(5, -1), (3, 1)], -1) (List.mem_of_getElem? (i := 1) rfl)
    obtain rfl : (-1 * x5.toInt + (1 * x3.toInt + 0)) = z := Option.some.inj (show some (-1 * x5.toInt + (1 * x3.toInt + 0)) = some z from e6)
    exact e7
  have f0 : fB K n p 70 [fR x0, fI x1, fI x2, fI x3] σ := by
    obtain ⟨w, e6, e7⟩ := m4 (1124, [0, 1, 2, 3]) (List.mem_of_getElem? (i := 0) rfl)
    obtain rfl : [fR x0, fI x1, fI x2, fI x3] = w := Option.some.inj (show some [fR x0, fI x1, fI x2, fI x3] = some w from e6)
    exact (fF_b (r := 1124) (by decide) rfl).mp e7
  clear m1 m2 m3 m4
  obtain ⟨a, hd, ls, len, N, t, h0, e, w, u1, N0, ⟨q, hq⟩, n1, n2, H, hs⟩ := f0
  cases e
  subst hq
  obtain rfl := fRo_c w.1 s0 t0 sc0
  have q0 : fB K n (.inl q) 69 [fR x0, fI x1, fI x4, fI x5] σ := by
    refine ⟨_, _, _, _, N, t, (t.1 x2.toInt.toNat).toInt.toNat, h0, rfl, w, u1, N0, ⟨q, rfl⟩, H, ?_, fun _ => by rw [ec0]; omega, by omega⟩
    rw [show x5.toInt.toNat = x3.toInt.toNat - 1 by omega]
    exact hs
  exact ⟨.inl q, fun _ => rfl, ⟨(fun q h => by cases h), fun q h => (by cases h), (fun f h => by cases h), (aAllc ⟨_, rfl, (fF_b (r := 1108) (by decide) rfl).mpr q0⟩ (fun f h => by cases h))⟩, [], List.mem_cons_self, fun f h => (by cases h)⟩
set_option maxRecDepth 8192 in
theorem rw_ruWE {K : Nat → Nat} {n : Nat} : aGho (fF K n) fa_T K n (fJX K n) ag_ruWE := by
  refine aGho_of ⟨rfl, rfl⟩ ?_
  intro p σ ρ hH hX hA hM
  have hG := aAG_of hA.1 (fun i e v he hv => (hA.2 i e v he hv).1)
  clear hA
  obtain ⟨v0, v1, v2, v3, v4, rfl, g0, g1, g2, g3, g4⟩ := fA_5 hG
  clear hG
  obtain ⟨x0, rfl, b0, d0⟩ := fG_ref (by decide) g0
  obtain ⟨x1, rfl, b1, d1⟩ := aG_int g1
  dsimp only at b1 d1
  obtain ⟨x2, rfl, b2, d2⟩ := aG_int g2
  dsimp only at b2 d2
  obtain ⟨x3, rfl, b3, d3⟩ := aG_int g3
  dsimp only at b3 d3
  obtain ⟨x4, rfl, b4, d4⟩ := fG_ref (by decide) g4
  obtain ⟨m1, m2, m3, m4⟩ := hM
  have l0 : 0 ≤ (-1 * x3.toInt + 0) + 0 := by
    obtain ⟨z, e6, e7⟩ := m3 ([(3, -1)], 0) (List.mem_of_getElem? (i := 0) rfl)
    obtain rfl : (-1 * x3.toInt + 0) = z := Option.some.inj (show some (-1 * x3.toInt + 0) = some z from e6)
    exact e7
  have f0 : fB K n p 1 [fR x4] σ := by
    obtain ⟨w, e6, e7⟩ := m4 (17, [4]) (List.mem_of_getElem? (i := 0) rfl)
    obtain rfl : [fR x4] = w := Option.some.inj (show some [fR x4] = some w from e6)
    exact (fF_b (r := 17) (by decide) rfl).mp e7
  have f1 : fB K n p 69 [fR x0, fI x1, fI x2, fI x3] σ := by
    obtain ⟨w, e6, e7⟩ := m4 (1108, [0, 1, 2, 3]) (List.mem_of_getElem? (i := 1) rfl)
    obtain rfl : [fR x0, fI x1, fI x2, fI x3] = w := Option.some.inj (show some [fR x0, fI x1, fI x2, fI x3] = some w from e6)
    exact (fF_b (r := 1108) (by decide) rfl).mp e7
  clear m1 m2 m3 m4
  obtain ⟨a9, e9, A, hg9, q9, hq9⟩ := f0
  cases e9
  obtain ⟨a, hd, ls, len, N, t, h, h0, e, w, u1, N0, ⟨q, hq⟩, H, hs, hl, l0⟩ := f1
  cases e
  subst hq
  obtain ⟨z1, z2, z3, z4, z5, z6⟩ := hs
  rw [show x3.toInt.toNat = 0 by omega] at z2
  rw [fUp_z] at z2
  subst z2
  have q0 : fB K n (.inl q) 116 [fR x0, fR x4, fI x1] σ := by
    exact ⟨_, _, _, N, t, q, rfl, w, u1, by omega, by omega, by omega, by rw [z6]; exact H, A⟩
  exact ⟨.inl q, fun _ => rfl, ⟨(fun q h => by cases h), fun q h => (by cases h), (fun f h => by cases h), (aAllc ⟨_, rfl, (fF_b (r := 1859) (by decide) rfl).mpr q0⟩ (fun f h => by cases h))⟩, [], List.mem_cons_self, fun f h => (by cases h)⟩
set_option maxRecDepth 8192 in
theorem rw_ruTW {K : Nat → Nat} {n : Nat} : aGho (fF K n) fa_T K n (fJX K n) ag_ruTW := by
  refine aGho_of ⟨rfl, rfl⟩ ?_
  intro p σ ρ hH hX hA hM
  have hG := aAG_of hA.1 (fun i e v he hv => (hA.2 i e v he hv).1)
  clear hA
  obtain ⟨v0, v1, v2, v3, v4, v5, rfl, g0, g1, g2, g3, g4, g5⟩ := fA_6 hG
  clear hG
  obtain ⟨x0, rfl, b0, d0⟩ := fG_ref (by decide) g0
  obtain ⟨x1, rfl, b1, d1⟩ := fG_ref (by decide) g1
  obtain ⟨x2, rfl, b2, d2⟩ := aG_int g2
  dsimp only at b2 d2
  obtain ⟨x3, rfl, b3, d3⟩ := aG_int g3
  dsimp only at b3 d3
  obtain ⟨x4, rfl, b4, d4⟩ := aG_int g4
  dsimp only at b4 d4
  obtain ⟨x5, rfl, b5, d5⟩ := fG_ref (by decide) g5
  obtain ⟨m1, m2, m3, m4⟩ := hM
  obtain ⟨a0, c0, fs0, w0, e1, s0, t0, e4⟩ := m1 (0, 5, 5) (List.mem_of_getElem? (i := 0) rfl)
  obtain rfl : x0 = a0 := Sum.inl.inj (Option.some.inj (Sum.inr.inj (Sum.inr.inj (Option.some.inj (show some (fR x0) = some _ from e1)))))
  obtain rfl : fR x5 = w0 := Option.some.inj (show some (fR x5) = some w0 from e4)
  clear e1 e4
  obtain ⟨a1, c1, fs1, w1, e1, s1, t1, e4⟩ := m1 (0, 1, 3) (List.mem_of_getElem? (i := 1) rfl)
  obtain rfl : x0 = a1 := Sum.inl.inj (Option.some.inj (Sum.inr.inj (Sum.inr.inj (Option.some.inj (show some (fR x0) = some _ from e1)))))
  obtain rfl : fI x3 = w1 := Option.some.inj (show some (fI x3) = some w1 from e4)
  clear e1 e4
  obtain ⟨a, mc0, ty0, gc0, ic0, e1, sc0, jc0, e4, e5⟩ := m2 (5, ([], 0), 4) (List.mem_of_getElem? (i := 0) rfl)
  obtain rfl : x5 = a := Sum.inl.inj (Option.some.inj (Sum.inr.inj (Sum.inr.inj (Option.some.inj (show some (fR x5) = some _ from e1)))))
  obtain ⟨gc0, rfl⟩ : ∃ g, gc0 = .inl g := by
    rcases gc0 with g | g
    · exact ⟨g, rfl⟩
    · exact absurd (show some (fI x4) = some (.inr (.inl (g ic0))) from e5) (fun h => by cases h)
  have sc0 : σ x5 = .inl (ty0, mc0, .inl gc0) := sc0
  have ec0 : x4 = gc0 ic0 := Sum.inl.inj (Option.some.inj (show some (fI x4) = some _ from e5))
  have kc0 : (ic0 : Int) = 0 + 0 := by
    obtain ⟨z, e6, e7⟩ := e4
    obtain rfl : 0 = z := Option.some.inj (show some 0 = some z from e6)
    exact e7
  clear e1 e4 e5
  have l0 : 0 ≤ (-1 * x2.toInt + 0) + 0 := by
    obtain ⟨z, e6, e7⟩ := m3 ([(2, -1)], 0) (List.mem_of_getElem? (i := 0) rfl)
    obtain rfl : (-1 * x2.toInt + 0) = z := Option.some.inj (show some (-1 * x2.toInt + 0) = some z from e6)
    exact e7
  have f0 : fB K n p 1 [fR x1] σ := by
    obtain ⟨w, e6, e7⟩ := m4 (17, [1]) (List.mem_of_getElem? (i := 0) rfl)
    obtain rfl : [fR x1] = w := Option.some.inj (show some [fR x1] = some w from e6)
    exact (fF_b (r := 17) (by decide) rfl).mp e7
  have f1 : fB K n p 61 [fR x0, fI x2, fI x3] σ := by
    obtain ⟨w, e6, e7⟩ := m4 (979, [0, 2, 3]) (List.mem_of_getElem? (i := 1) rfl)
    obtain rfl : [fR x0, fI x2, fI x3] = w := Option.some.inj (show some [fR x0, fI x2, fI x3] = some w from e6)
    exact (fF_b (r := 979) (by decide) rfl).mp e7
  clear m1 m2 m3 m4
  obtain ⟨a9, e9, A, hg9, q9, hq9⟩ := f0
  cases e9
  obtain ⟨a, h, N, t, e, w, h0, N0, ⟨q, hq⟩, H⟩ := f1
  cases e
  subst hq
  obtain rfl := fRo_c w.2.2.1 s0 t0 sc0
  obtain ⟨L, L1, L2, L3⟩ := fTk_ch H (k := 0) (Nat.zero_le _)
  rw [show (0 : Nat) = ic0 by omega, ← ec0] at L2
  obtain ⟨y1, y2, y3⟩ : 1 ≤ x4.toInt.toNat ∧ x4.toInt.toNat ≤ x3.toInt.toNat ∧ (t.1 x4.toInt.toNat).toInt = (0 : Nat) := by
    cases L with
    | nil => have h9 : x4.toInt = 0 := L2; exact absurd h9 (by omega)
    | cons c r =>
      have hc : x4.toInt = (c : Int) := L2.1
      rw [show x4.toInt.toNat = c by omega]
      exact L3 c List.mem_cons_self
  have q0 : fB K n (.inl q) 116 [fR x0, fR x1, fI x4] σ := by
    refine ⟨_, _, _, _, t, q, rfl, w, fFi_mk hH b0 d0 s1 t1, by omega, by omega, by omega, ?_, A⟩
    rw [y3, show ((0 : Nat) : Int).toNat = x2.toInt.toNat by omega]
    exact H
  have q1 : fB K n (.inl q) 104 [fR x0, fI x4, fI x2] σ := by
    exact ⟨_, _, _, _, t.1, rfl, w.1, fFi_mk hH b0 d0 s1 t1, by omega, by omega, fI0 (by omega)⟩
  exact ⟨.inl q, fun _ => rfl, ⟨(fun q h => by cases h), fun q h => (by cases h), (fun f h => by cases h), (aAllc ⟨_, rfl, (fF_b (r := 1859) (by decide) rfl).mpr q0⟩ (aAllc ⟨_, rfl, (fF_b (r := 1667) (by decide) rfl).mpr q1⟩ (fun f h => by cases h)))⟩, [], List.mem_cons_self, fun f h => (by cases h)⟩
set_option maxRecDepth 8192 in
theorem rw_ruTX {K : Nat → Nat} {n : Nat} : aGho (fF K n) fa_T K n (fJX K n) ag_ruTX := by
  refine aGho_of ⟨rfl, rfl⟩ ?_
  intro p σ ρ hH hX hA hM
  have hG := aAG_of hA.1 (fun i e v he hv => (hA.2 i e v he hv).1)
  clear hA
  obtain ⟨v0, v1, v2, v3, rfl, g0, g1, g2, g3⟩ := fA_4 hG
  clear hG
  obtain ⟨x0, rfl, b0, d0⟩ := fG_ref (by decide) g0
  obtain ⟨x1, rfl, b1, d1⟩ := fG_ref (by decide) g1
  obtain ⟨x2, rfl, b2, d2⟩ := aG_int g2
  dsimp only at b2 d2
  obtain ⟨x3, rfl, b3, d3⟩ := aG_int g3
  dsimp only at b3 d3
  obtain ⟨m1, m2, m3, m4⟩ := hM
  obtain ⟨a0, c0, fs0, w0, e1, s0, t0, e4⟩ := m1 (0, 0, 1) (List.mem_of_getElem? (i := 0) rfl)
  obtain rfl : x0 = a0 := Sum.inl.inj (Option.some.inj (Sum.inr.inj (Sum.inr.inj (Option.some.inj (show some (fR x0) = some _ from e1)))))
  obtain rfl : fR x1 = w0 := Option.some.inj (show some (fR x1) = some w0 from e4)
  clear e1 e4
  obtain ⟨a1, c1, fs1, w1, e1, s1, t1, e4⟩ := m1 (0, 2, 2) (List.mem_of_getElem? (i := 1) rfl)
  obtain rfl : x0 = a1 := Sum.inl.inj (Option.some.inj (Sum.inr.inj (Sum.inr.inj (Option.some.inj (show some (fR x0) = some _ from e1)))))
  obtain rfl : fI x2 = w1 := Option.some.inj (show some (fI x2) = some w1 from e4)
  clear e1 e4
  have f0 : fB K n p 116 [fR x0, fR x1, fI x3] σ := by
    obtain ⟨w, e6, e7⟩ := m4 (1859, [0, 1, 3]) (List.mem_of_getElem? (i := 0) rfl)
    obtain rfl : [fR x0, fR x1, fI x3] = w := Option.some.inj (show some [fR x0, fR x1, fI x3] = some w from e6)
    exact (fF_b (r := 1859) (by decide) rfl).mp e7
  have f1 : fB K n p 104 [fR x0, fI x3, fI x2] σ := by
    obtain ⟨w, e6, e7⟩ := m4 (1667, [0, 3, 2]) (List.mem_of_getElem? (i := 1) rfl)
    obtain rfl : [fR x0, fI x3, fI x2] = w := Option.some.inj (show some [fR x0, fI x3, fI x2] = some w from e6)
    exact (fF_b (r := 1667) (by decide) rfl).mp e7
  clear m1 m2 m3 m4
  obtain ⟨a, b, c, N, t, q, e, w, u1, l1, l2, l3, H, A⟩ := f0
  cases e
  obtain ⟨a4, c4, h4, N4, pa4, e4, w4, u4, l4a, l4b, p4⟩ := f1
  cases e4
  obtain rfl := fRo_u w4 w.1
  have q0 : fB K n (p) 100 [fR x0] σ := by
    refine ⟨_, _, _, N, t, q, rfl, w, fFi_mk hH b0 d0 s0 t0, u1, fFi_mk hH b0 d0 s1 t1, by omega, by omega, ?_, A⟩
    rw [p4] at H
    exact H
  exact ⟨p, fun _ => rfl, ⟨(fun q h => by cases h), fun q h => (by cases h), (fun f h => by cases h), (aAllc ⟨_, rfl, (fF_b (r := 1601) (by decide) rfl).mpr q0⟩ (fun f h => by cases h))⟩, [], List.mem_cons_self, fun f h => (by cases h)⟩

