/-! exact rules, attack: their proofs -/
theorem fOr_l {a b : Prop} (h : a ∨ b) (hb : ¬ b) : a := h.resolve_right hb
theorem fOr_r {a b : Prop} (h : a ∨ b) (ha : ¬ a) : b := h.resolve_left ha
set_option maxRecDepth 8192 in
theorem rw_ruAH0 {K : Nat → Nat} {n : Nat} : aGho (fF K n) fa_T K n (fJX K n) ag_ruAH0 := by
  refine aGho_of ⟨rfl, rfl⟩ ?_
  intro p σ ρ hH hX hA hM
  have hG := aAG_of hA.1 (fun i e v he hv => (hA.2 i e v he hv).1)
  clear hA
  obtain ⟨v0, v1, v2, v3, rfl, g0, g1, g2, g3⟩ := fA_4 hG
  clear hG
  obtain ⟨x0, rfl, b0, d0⟩ := fG_ref (by decide) g0
  obtain ⟨x1, rfl, b1, d1⟩ := aG_int g1
  dsimp only at b1 d1
  obtain ⟨x2, rfl, b2, d2⟩ := aG_int g2
  dsimp only at b2 d2
  obtain ⟨x3, rfl, b3, d3⟩ := aG_int g3
  dsimp only at b3 d3
  obtain ⟨m1, m2, m3, m4⟩ := hM
  have l0 : 0 ≤ (1 * x3.toInt + (-8 * x1.toInt + 0)) + 0 := by
    obtain ⟨z, e6, e7⟩ := m3 ([(3, 1), (1, -8)], 0) (List.mem_of_getElem? (i := 0) rfl)
    obtain rfl : (1 * x3.toInt + (-8 * x1.toInt + 0)) = z := Option.some.inj (show some (1 * x3.toInt + (-8 * x1.toInt + 0)) = some z from e6)
    exact e7
  have l1 : 0 ≤ (-1 * x3.toInt + (8 * x1.toInt + 0)) + 0 := by
    obtain ⟨z, e6, e7⟩ := m3 ([(3, -1), (1, 8)], 0) (List.mem_of_getElem? (i := 1) rfl)
    obtain rfl : (-1 * x3.toInt + (8 * x1.toInt + 0)) = z := Option.some.inj (show some (-1 * x3.toInt + (8 * x1.toInt + 0)) = some z from e6)
    exact e7
  clear m1 m2 m3 m4
  obtain ⟨g0, w0⟩ := fMe_ex hH b0 d0
  have q0 : fB K n (p) 200 [fR x0, fI x1, fI x2, fI x3] σ := by
    refine (fH_o (by decide) (by decide)).mpr ⟨x0, g0, _, rfl, w0, x1, x2, x3, rfl, by omega, by omega, fun j hj => by omega⟩
  exact ⟨p, fun _ => rfl, ⟨(fun q h => by cases h), fun q h => (by cases h), (fun f h => by cases h), (aAllc ⟨_, rfl, (fF_b (r := 3204) (by decide) rfl).mpr q0⟩ (fun f h => by cases h))⟩, [], List.mem_cons_self, fun f h => (by cases h)⟩
set_option maxRecDepth 8192 in
theorem rw_ruAHV {K : Nat → Nat} {n : Nat} : aGho (fF K n) fa_T K n (fJX K n) ag_ruAHV := by
  refine aGho_of ⟨rfl, rfl⟩ ?_
  intro p σ ρ hH hX hA hM
  have hG := aAG_of hA.1 (fun i e v he hv => (hA.2 i e v he hv).1)
  clear hA
  obtain ⟨v0, v1, v2, v3, rfl, g0, g1, g2, g3⟩ := fA_4 hG
  clear hG
  obtain ⟨x0, rfl, b0, d0⟩ := fG_ref (by decide) g0
  obtain ⟨x1, rfl, b1, d1⟩ := aG_int g1
  dsimp only at b1 d1
  obtain ⟨x2, rfl, b2, d2⟩ := aG_int g2
  dsimp only at b2 d2
  obtain ⟨x3, rfl, b3, d3⟩ := aG_int g3
  dsimp only at b3 d3
  obtain ⟨m1, m2, m3, m4⟩ := hM
  obtain ⟨a, mc0, ty0, gc0, ic0, e1, sc0, jc0, e4, e5⟩ := m2 (0, ([(2, 1)], 0), 3) (List.mem_of_getElem? (i := 0) rfl)
  obtain rfl : x0 = a := Sum.inl.inj (Option.some.inj (Sum.inr.inj (Sum.inr.inj (Option.some.inj (show some (fR x0) = some _ from e1)))))
  obtain ⟨gc0, rfl⟩ : ∃ g, gc0 = .inl g := by
    rcases gc0 with g | g
    · exact ⟨g, rfl⟩
    · exact absurd (show some (fI x3) = some (.inr (.inl (g ic0))) from e5) (fun h => by cases h)
  have sc0 : σ x0 = .inl (ty0, mc0, .inl gc0) := sc0
  have ec0 : x3 = gc0 ic0 := Sum.inl.inj (Option.some.inj (show some (fI x3) = some _ from e5))
  have kc0 : (ic0 : Int) = (1 * x2.toInt + 0) + 0 := by
    obtain ⟨z, e6, e7⟩ := e4
    obtain rfl : (1 * x2.toInt + 0) = z := Option.some.inj (show some (1 * x2.toInt + 0) = some z from e6)
    exact e7
  clear e1 e4 e5
  obtain rfl : ic0 = x2.toInt.toNat := by omega
  have l0 : 0 ≤ (1 * x2.toInt + (-8 * x1.toInt + 0)) + 0 := by
    obtain ⟨z, e6, e7⟩ := m3 ([(2, 1), (1, -8)], 0) (List.mem_of_getElem? (i := 0) rfl)
    obtain rfl : (1 * x2.toInt + (-8 * x1.toInt + 0)) = z := Option.some.inj (show some (1 * x2.toInt + (-8 * x1.toInt + 0)) = some z from e6)
    exact e7
  have l1 : 0 ≤ (-1 * x2.toInt + (8 * x1.toInt + 0)) + 7 := by
    obtain ⟨z, e6, e7⟩ := m3 ([(2, -1), (1, 8)], 7) (List.mem_of_getElem? (i := 1) rfl)
    obtain rfl : (-1 * x2.toInt + (8 * x1.toInt + 0)) = z := Option.some.inj (show some (-1 * x2.toInt + (8 * x1.toInt + 0)) = some z from e6)
    exact e7
  clear m1 m2 m3 m4
  have q0 : fB K n (p) 204 [fI x1, fI x2, fI x3] σ := by
    obtain ⟨g, h1, h2⟩ := hX.2.1 x0 b0 d0
    rw [h1] at sc0
    cases sc0
    refine (fP_o (by decide)).mpr ⟨x1, x2, x3, rfl, by omega, by omega, ?_⟩
    have h3 := h2 x1.toInt.toNat (x2.toInt.toNat - 8 * x1.toInt.toNat) (by omega) (by omega)
    rw [show 8 * x1.toInt.toNat + (x2.toInt.toNat - 8 * x1.toInt.toNat) = x2.toInt.toNat by omega, ← ec0] at h3
    rw [h3, show x2.toInt.toNat - 8 * x1.toInt.toNat = (x2.toInt - 8 * x1.toInt).toNat by omega]
  exact ⟨p, fun _ => rfl, ⟨(fun q h => by cases h), fun q h => (by cases h), (fun f h => by cases h), (aAllc ⟨_, rfl, (fF_b (r := 3267) (by decide) rfl).mpr q0⟩ (fun f h => by cases h))⟩, [], List.mem_cons_self, fun f h => (by cases h)⟩
set_option maxRecDepth 8192 in
theorem rw_ruAHl {K : Nat → Nat} {n : Nat} : aGho (fF K n) fa_T K n (fJX K n) ag_ruAHl := by
  refine aGho_of ⟨rfl, rfl⟩ ?_
  intro p σ ρ hH hX hA hM
  have hG := aAG_of hA.1 (fun i e v he hv => (hA.2 i e v he hv).1)
  clear hA
  obtain ⟨v0, v1, v2, v3, v4, v5, v6, rfl, g0, g1, g2, g3, g4, g5, g6⟩ := fA_7 hG
  clear hG
  obtain ⟨x0, rfl, b0, d0⟩ := fG_ref (by decide) g0
  obtain ⟨x1, rfl, b1, d1⟩ := aG_int g1
  dsimp only at b1 d1
  obtain ⟨x2, rfl, b2, d2⟩ := aG_int g2
  dsimp only at b2 d2
  obtain ⟨x3, rfl, b3, d3⟩ := aG_int g3
  dsimp only at b3 d3
  obtain ⟨x4, rfl, b4, d4⟩ := aG_int g4
  dsimp only at b4 d4
  obtain ⟨x5, rfl, b5, d5⟩ := aG_int g5
  dsimp only at b5 d5
  obtain ⟨x6, rfl, b6, d6⟩ := fG_ref (by decide) g6
  obtain ⟨m1, m2, m3, m4⟩ := hM
  obtain ⟨a0, c0, fs0, w0, e1, s0, t0, e4⟩ := m1 (0, 0, 6) (List.mem_of_getElem? (i := 0) rfl)
  obtain rfl : x0 = a0 := Sum.inl.inj (Option.some.inj (Sum.inr.inj (Sum.inr.inj (Option.some.inj (show some (fR x0) = some _ from e1)))))
  obtain rfl : fR x6 = w0 := Option.some.inj (show some (fR x6) = some w0 from e4)
  clear e1 e4
  obtain ⟨a, mc0, ty0, gc0, ic0, e1, sc0, jc0, e4, e5⟩ := m2 (6, ([(4, 1)], 0), 5) (List.mem_of_getElem? (i := 0) rfl)
  obtain rfl : x6 = a := Sum.inl.inj (Option.some.inj (Sum.inr.inj (Sum.inr.inj (Option.some.inj (show some (fR x6) = some _ from e1)))))
  obtain ⟨gc0, rfl⟩ : ∃ g, gc0 = .inl g := by
    rcases gc0 with g | g
    · exact ⟨g, rfl⟩
    · exact absurd (show some (fI x5) = some (.inr (.inl (g ic0))) from e5) (fun h => by cases h)
  have sc0 : σ x6 = .inl (ty0, mc0, .inl gc0) := sc0
  have ec0 : x5 = gc0 ic0 := Sum.inl.inj (Option.some.inj (show some (fI x5) = some _ from e5))
  have kc0 : (ic0 : Int) = (1 * x4.toInt + 0) + 0 := by
    obtain ⟨z, e6, e7⟩ := e4
    obtain rfl : (1 * x4.toInt + 0) = z := Option.some.inj (show some (1 * x4.toInt + 0) = some z from e6)
    exact e7
  clear e1 e4 e5
  obtain rfl : ic0 = x4.toInt.toNat := by omega
  have l0 : 0 ≤ (-1 * x5.toInt + (8 * x2.toInt + 0)) + 1 := by
    obtain ⟨z, e6, e7⟩ := m3 ([(5, -1), (2, 8)], 1) (List.mem_of_getElem? (i := 0) rfl)
    obtain rfl : (-1 * x5.toInt + (8 * x2.toInt + 0)) = z := Option.some.inj (show some (-1 * x5.toInt + (8 * x2.toInt + 0)) = some z from e6)
    exact e7
  have f0 : fB K n p 200 [fR x0, fI x1, fI x2, fI x3] σ := by
    obtain ⟨w, e6, e7⟩ := m4 (3204, [0, 1, 2, 3]) (List.mem_of_getElem? (i := 0) rfl)
    obtain rfl : [fR x0, fI x1, fI x2, fI x3] = w := Option.some.inj (show some [fR x0, fI x1, fI x2, fI x3] = some w from e6)
    exact (fF_b (r := 3204) (by decide) rfl).mp e7
  have f1 : fB K n p 204 [fI x1, fI x3, fI x4] σ := by
    obtain ⟨w, e6, e7⟩ := m4 (3267, [1, 3, 4]) (List.mem_of_getElem? (i := 1) rfl)
    obtain rfl : [fI x1, fI x3, fI x4] = w := Option.some.inj (show some [fI x1, fI x3, fI x4] = some w from e6)
    exact (fF_b (r := 3267) (by decide) rfl).mp e7
  clear m1 m2 m3 m4
  obtain ⟨b9_0, g0, r9_0, e9_0, w0, y0_0, y0_1, y0_2, e8_0, h0, i0, q0⟩ := (fH_o (by decide) (by decide)).mp f0
  cases e9_0
  cases e8_0
  obtain ⟨y1_0, y1_1, y1_2, e8_1, h1, i1, q1⟩ := (fP_o (by decide)).mp f1
  cases e8_1
  obtain rfl := fMe_c w0 s0 t0 sc0
  have q0 : fB K n (p) 205 [fR x0, fI x1, fI x2, fI x3] σ := by
    refine (fH_o (by decide) (by decide)).mpr ⟨x0, g0, _, rfl, w0, x1, x2, x3, rfl, h0, by omega, fun j hj => ?_⟩
    by_cases hj' : 8 * x1.toInt + j < x3.toInt
    · exact q0 j hj'
    · rw [show j = (x3.toInt - 8 * x1.toInt).toNat by omega, ← q1]
      refine ⟨by omega, ?_⟩
      rw [← ec0]
      omega
  exact ⟨p, fun _ => rfl, ⟨(fun q h => by cases h), fun q h => (by cases h), (fun f h => by cases h), (aAllc ⟨_, rfl, (fF_b (r := 3284) (by decide) rfl).mpr q0⟩ (fun f h => by cases h))⟩, [], List.mem_cons_self, fun f h => (by cases h)⟩
set_option maxRecDepth 8192 in
theorem rw_ruAHg {K : Nat → Nat} {n : Nat} : aGho (fF K n) fa_T K n (fJX K n) ag_ruAHg := by
  refine aGho_of ⟨rfl, rfl⟩ ?_
  intro p σ ρ hH hX hA hM
  have hG := aAG_of hA.1 (fun i e v he hv => (hA.2 i e v he hv).1)
  clear hA
  obtain ⟨v0, v1, v2, v3, v4, v5, v6, rfl, g0, g1, g2, g3, g4, g5, g6⟩ := fA_7 hG
  clear hG
  obtain ⟨x0, rfl, b0, d0⟩ := fG_ref (by decide) g0
  obtain ⟨x1, rfl, b1, d1⟩ := aG_int g1
  dsimp only at b1 d1
  obtain ⟨x2, rfl, b2, d2⟩ := aG_int g2
  dsimp only at b2 d2
  obtain ⟨x3, rfl, b3, d3⟩ := aG_int g3
  dsimp only at b3 d3
  obtain ⟨x4, rfl, b4, d4⟩ := aG_int g4
  dsimp only at b4 d4
  obtain ⟨x5, rfl, b5, d5⟩ := aG_int g5
  dsimp only at b5 d5
  obtain ⟨x6, rfl, b6, d6⟩ := fG_ref (by decide) g6
  obtain ⟨m1, m2, m3, m4⟩ := hM
  obtain ⟨a0, c0, fs0, w0, e1, s0, t0, e4⟩ := m1 (0, 0, 6) (List.mem_of_getElem? (i := 0) rfl)
  obtain rfl : x0 = a0 := Sum.inl.inj (Option.some.inj (Sum.inr.inj (Sum.inr.inj (Option.some.inj (show some (fR x0) = some _ from e1)))))
  obtain rfl : fR x6 = w0 := Option.some.inj (show some (fR x6) = some w0 from e4)
  clear e1 e4
  obtain ⟨a, mc0, ty0, gc0, ic0, e1, sc0, jc0, e4, e5⟩ := m2 (6, ([(4, 1)], 0), 5) (List.mem_of_getElem? (i := 0) rfl)
  obtain rfl : x6 = a := Sum.inl.inj (Option.some.inj (Sum.inr.inj (Sum.inr.inj (Option.some.inj (show some (fR x6) = some _ from e1)))))
  obtain ⟨gc0, rfl⟩ : ∃ g, gc0 = .inl g := by
    rcases gc0 with g | g
    · exact ⟨g, rfl⟩
    · exact absurd (show some (fI x5) = some (.inr (.inl (g ic0))) from e5) (fun h => by cases h)
  have sc0 : σ x6 = .inl (ty0, mc0, .inl gc0) := sc0
  have ec0 : x5 = gc0 ic0 := Sum.inl.inj (Option.some.inj (show some (fI x5) = some _ from e5))
  have kc0 : (ic0 : Int) = (1 * x4.toInt + 0) + 0 := by
    obtain ⟨z, e6, e7⟩ := e4
    obtain rfl : (1 * x4.toInt + 0) = z := Option.some.inj (show some (1 * x4.toInt + 0) = some z from e6)
    exact e7
  clear e1 e4 e5
  obtain rfl : ic0 = x4.toInt.toNat := by omega
  have l0 : 0 ≤ (1 * x5.toInt + (-8 * x2.toInt + 0)) + -3 := by
    obtain ⟨z, e6, e7⟩ := m3 ([(5, 1), (2, -8)], -3) (List.mem_of_getElem? (i := 0) rfl)
    obtain rfl : (1 * x5.toInt + (-8 * x2.toInt + 0)) = z := Option.some.inj (show some (1 * x5.toInt + (-8 * x2.toInt + 0)) = some z from e6)
    exact e7
  have f0 : fB K n p 200 [fR x0, fI x1, fI x2, fI x3] σ := by
    obtain ⟨w, e6, e7⟩ := m4 (3204, [0, 1, 2, 3]) (List.mem_of_getElem? (i := 0) rfl)
    obtain rfl : [fR x0, fI x1, fI x2, fI x3] = w := Option.some.inj (show some [fR x0, fI x1, fI x2, fI x3] = some w from e6)
    exact (fF_b (r := 3204) (by decide) rfl).mp e7
  have f1 : fB K n p 204 [fI x1, fI x3, fI x4] σ := by
    obtain ⟨w, e6, e7⟩ := m4 (3267, [1, 3, 4]) (List.mem_of_getElem? (i := 1) rfl)
    obtain rfl : [fI x1, fI x3, fI x4] = w := Option.some.inj (show some [fI x1, fI x3, fI x4] = some w from e6)
    exact (fF_b (r := 3267) (by decide) rfl).mp e7
  clear m1 m2 m3 m4
  obtain ⟨b9_0, g0, r9_0, e9_0, w0, y0_0, y0_1, y0_2, e8_0, h0, i0, q0⟩ := (fH_o (by decide) (by decide)).mp f0
  cases e9_0
  cases e8_0
  obtain ⟨y1_0, y1_1, y1_2, e8_1, h1, i1, q1⟩ := (fP_o (by decide)).mp f1
  cases e8_1
  obtain rfl := fMe_c w0 s0 t0 sc0
  have q0 : fB K n (p) 205 [fR x0, fI x1, fI x2, fI x3] σ := by
    refine (fH_o (by decide) (by decide)).mpr ⟨x0, g0, _, rfl, w0, x1, x2, x3, rfl, h0, by omega, fun j hj => ?_⟩
    by_cases hj' : 8 * x1.toInt + j < x3.toInt
    · exact q0 j hj'
    · rw [show j = (x3.toInt - 8 * x1.toInt).toNat by omega, ← q1]
      refine ⟨by omega, ?_⟩
      rw [← ec0]
      omega
  exact ⟨p, fun _ => rfl, ⟨(fun q h => by cases h), fun q h => (by cases h), (fun f h => by cases h), (aAllc ⟨_, rfl, (fF_b (r := 3284) (by decide) rfl).mpr q0⟩ (fun f h => by cases h))⟩, [], List.mem_cons_self, fun f h => (by cases h)⟩
set_option maxRecDepth 8192 in
theorem rw_ruAHy {K : Nat → Nat} {n : Nat} : aGho (fF K n) fa_T K n (fJX K n) ag_ruAHy := by
  refine aGho_of ⟨rfl, rfl⟩ ?_
  intro p σ ρ hH hX hA hM
  have hG := aAG_of hA.1 (fun i e v he hv => (hA.2 i e v he hv).1)
  clear hA
  obtain ⟨v0, v1, v2, v3, v4, v5, v6, rfl, g0, g1, g2, g3, g4, g5, g6⟩ := fA_7 hG
  clear hG
  obtain ⟨x0, rfl, b0, d0⟩ := fG_ref (by decide) g0
  obtain ⟨x1, rfl, b1, d1⟩ := aG_int g1
  dsimp only at b1 d1
  obtain ⟨x2, rfl, b2, d2⟩ := aG_int g2
  dsimp only at b2 d2
  obtain ⟨x3, rfl, b3, d3⟩ := aG_int g3
  dsimp only at b3 d3
  obtain ⟨x4, rfl, b4, d4⟩ := aG_int g4
  dsimp only at b4 d4
  obtain ⟨x5, rfl, b5, d5⟩ := aG_int g5
  dsimp only at b5 d5
  obtain ⟨x6, rfl, b6, d6⟩ := fG_ref (by decide) g6
  obtain ⟨m1, m2, m3, m4⟩ := hM
  obtain ⟨a0, c0, fs0, w0, e1, s0, t0, e4⟩ := m1 (0, 0, 6) (List.mem_of_getElem? (i := 0) rfl)
  obtain rfl : x0 = a0 := Sum.inl.inj (Option.some.inj (Sum.inr.inj (Sum.inr.inj (Option.some.inj (show some (fR x0) = some _ from e1)))))
  obtain rfl : fR x6 = w0 := Option.some.inj (show some (fR x6) = some w0 from e4)
  clear e1 e4
  obtain ⟨a, mc0, ty0, gc0, ic0, e1, sc0, jc0, e4, e5⟩ := m2 (6, ([(4, 1)], 0), 5) (List.mem_of_getElem? (i := 0) rfl)
  obtain rfl : x6 = a := Sum.inl.inj (Option.some.inj (Sum.inr.inj (Sum.inr.inj (Option.some.inj (show some (fR x6) = some _ from e1)))))
  obtain ⟨gc0, rfl⟩ : ∃ g, gc0 = .inl g := by
    rcases gc0 with g | g
    · exact ⟨g, rfl⟩
    · exact absurd (show some (fI x5) = some (.inr (.inl (g ic0))) from e5) (fun h => by cases h)
  have sc0 : σ x6 = .inl (ty0, mc0, .inl gc0) := sc0
  have ec0 : x5 = gc0 ic0 := Sum.inl.inj (Option.some.inj (show some (fI x5) = some _ from e5))
  have kc0 : (ic0 : Int) = (1 * x4.toInt + 0) + 0 := by
    obtain ⟨z, e6, e7⟩ := e4
    obtain rfl : (1 * x4.toInt + 0) = z := Option.some.inj (show some (1 * x4.toInt + 0) = some z from e6)
    exact e7
  clear e1 e4 e5
  obtain rfl : ic0 = x4.toInt.toNat := by omega
  have l0 : 0 ≤ (1 * x5.toInt + (-8 * x2.toInt + 0)) + -2 := by
    obtain ⟨z, e6, e7⟩ := m3 ([(5, 1), (2, -8)], -2) (List.mem_of_getElem? (i := 0) rfl)
    obtain rfl : (1 * x5.toInt + (-8 * x2.toInt + 0)) = z := Option.some.inj (show some (1 * x5.toInt + (-8 * x2.toInt + 0)) = some z from e6)
    exact e7
  have l1 : 0 ≤ (-1 * x5.toInt + (8 * x2.toInt + 0)) + 2 := by
    obtain ⟨z, e6, e7⟩ := m3 ([(5, -1), (2, 8)], 2) (List.mem_of_getElem? (i := 1) rfl)
    obtain rfl : (-1 * x5.toInt + (8 * x2.toInt + 0)) = z := Option.some.inj (show some (-1 * x5.toInt + (8 * x2.toInt + 0)) = some z from e6)
    exact e7
  have f0 : fB K n p 200 [fR x0, fI x1, fI x2, fI x3] σ := by
    obtain ⟨w, e6, e7⟩ := m4 (3204, [0, 1, 2, 3]) (List.mem_of_getElem? (i := 0) rfl)
    obtain rfl : [fR x0, fI x1, fI x2, fI x3] = w := Option.some.inj (show some [fR x0, fI x1, fI x2, fI x3] = some w from e6)
    exact (fF_b (r := 3204) (by decide) rfl).mp e7
  have f1 : fB K n p 204 [fI x1, fI x3, fI x4] σ := by
    obtain ⟨w, e6, e7⟩ := m4 (3267, [1, 3, 4]) (List.mem_of_getElem? (i := 1) rfl)
    obtain rfl : [fI x1, fI x3, fI x4] = w := Option.some.inj (show some [fI x1, fI x3, fI x4] = some w from e6)
    exact (fF_b (r := 3267) (by decide) rfl).mp e7
  clear m1 m2 m3 m4
  obtain ⟨b9_0, g0, r9_0, e9_0, w0, y0_0, y0_1, y0_2, e8_0, h0, i0, q0⟩ := (fH_o (by decide) (by decide)).mp f0
  cases e9_0
  cases e8_0
  obtain ⟨y1_0, y1_1, y1_2, e8_1, h1, i1, q1⟩ := (fP_o (by decide)).mp f1
  cases e8_1
  obtain rfl := fMe_c w0 s0 t0 sc0
  have q0 : fB K n (p) 206 [fR x0, fI x1, fI x2] σ := by
    refine (fH_o (by decide) (by decide)).mpr ⟨x0, g0, _, rfl, w0, x1, x2, rfl, (x3.toInt - 8 * x1.toInt).toNat, by omega, by rw [← q1]; omega, ?_⟩
    rw [← q1, ← ec0]
    omega
  exact ⟨p, fun _ => rfl, ⟨(fun q h => by cases h), fun q h => (by cases h), (fun f h => by cases h), (aAllc ⟨_, rfl, (fF_b (r := 3299) (by decide) rfl).mpr q0⟩ (fun f h => by cases h))⟩, [], List.mem_cons_self, fun f h => (by cases h)⟩
set_option maxRecDepth 8192 in
theorem rw_ruAHn {K : Nat → Nat} {n : Nat} : aGho (fF K n) fa_T K n (fJX K n) ag_ruAHn := by
  refine aGho_of ⟨rfl, rfl⟩ ?_
  intro p σ ρ hH hX hA hM
  have hG := aAG_of hA.1 (fun i e v he hv => (hA.2 i e v he hv).1)
  clear hA
  obtain ⟨v0, v1, v2, v3, v4, rfl, g0, g1, g2, g3, g4⟩ := fA_5 hG
  clear hG
  obtain ⟨x0, rfl, b0, d0⟩ := fG_ref (by decide) g0
  obtain ⟨x1, rfl, b1, d1⟩ := aG_int g1
  dsimp only at b1 d1
  obtain ⟨x2, rfl, b2, d2⟩ := aG_int g2
  dsimp only at b2 d2
  obtain ⟨x3, rfl, b3, d3⟩ := aG_int g3
  dsimp only at b3 d3
  obtain ⟨x4, rfl, b4, d4⟩ := aG_int g4
  dsimp only at b4 d4
  obtain ⟨m1, m2, m3, m4⟩ := hM
  have l0 : 0 ≤ (1 * x4.toInt + (-1 * x3.toInt + 0)) + -1 := by
    obtain ⟨z, e6, e7⟩ := m3 ([(4, 1), (3, -1)], -1) (List.mem_of_getElem? (i := 0) rfl)
    obtain rfl : (1 * x4.toInt + (-1 * x3.toInt + 0)) = z := Option.some.inj (show some (1 * x4.toInt + (-1 * x3.toInt + 0)) = some z from e6)
    exact e7
  have l1 : 0 ≤ (-1 * x4.toInt + (1 * x3.toInt + 0)) + 1 := by
    obtain ⟨z, e6, e7⟩ := m3 ([(4, -1), (3, 1)], 1) (List.mem_of_getElem? (i := 1) rfl)
    obtain rfl : (-1 * x4.toInt + (1 * x3.toInt + 0)) = z := Option.some.inj (show some (-1 * x4.toInt + (1 * x3.toInt + 0)) = some z from e6)
    exact e7
  have f0 : fB K n p 205 [fR x0, fI x1, fI x2, fI x3] σ := by
    obtain ⟨w, e6, e7⟩ := m4 (3284, [0, 1, 2, 3]) (List.mem_of_getElem? (i := 0) rfl)
    obtain rfl : [fR x0, fI x1, fI x2, fI x3] = w := Option.some.inj (show some [fR x0, fI x1, fI x2, fI x3] = some w from e6)
    exact (fF_b (r := 3284) (by decide) rfl).mp e7
  clear m1 m2 m3 m4
  obtain ⟨b9_0, g0, r9_0, e9_0, w0, y0_0, y0_1, y0_2, e8_0, h0, i0, q0⟩ := (fH_o (by decide) (by decide)).mp f0
  cases e9_0
  cases e8_0
  have q0 : fB K n (p) 200 [fR x0, fI x1, fI x2, fI x4] σ := by
    refine (fH_o (by decide) (by decide)).mpr ⟨x0, g0, _, rfl, w0, x1, x2, x4, rfl, by omega, by omega, fun j hj => q0 j (by omega)⟩
  exact ⟨p, fun _ => rfl, ⟨(fun q h => by cases h), fun q h => (by cases h), (fun f h => by cases h), (aAllc ⟨_, rfl, (fF_b (r := 3204) (by decide) rfl).mpr q0⟩ (fun f h => by cases h))⟩, [], List.mem_cons_self, fun f h => (by cases h)⟩
set_option maxRecDepth 8192 in
theorem rw_ruAHz {K : Nat → Nat} {n : Nat} : aGho (fF K n) fa_T K n (fJX K n) ag_ruAHz := by
  refine aGho_of ⟨rfl, rfl⟩ ?_
  intro p σ ρ hH hX hA hM
  have hG := aAG_of hA.1 (fun i e v he hv => (hA.2 i e v he hv).1)
  clear hA
  obtain ⟨v0, v1, v2, v3, rfl, g0, g1, g2, g3⟩ := fA_4 hG
  clear hG
  obtain ⟨x0, rfl, b0, d0⟩ := fG_ref (by decide) g0
  obtain ⟨x1, rfl, b1, d1⟩ := aG_int g1
  dsimp only at b1 d1
  obtain ⟨x2, rfl, b2, d2⟩ := aG_int g2
  dsimp only at b2 d2
  obtain ⟨x3, rfl, b3, d3⟩ := aG_int g3
  dsimp only at b3 d3
  obtain ⟨m1, m2, m3, m4⟩ := hM
  have f0 : fB K n p 206 [fR x0, fI x1, fI x2] σ := by
    obtain ⟨w, e6, e7⟩ := m4 (3299, [0, 1, 2]) (List.mem_of_getElem? (i := 0) rfl)
    obtain rfl : [fR x0, fI x1, fI x2] = w := Option.some.inj (show some [fR x0, fI x1, fI x2] = some w from e6)
    exact (fF_b (r := 3299) (by decide) rfl).mp e7
  clear m1 m2 m3 m4
  obtain ⟨b9_0, g0, r9_0, e9_0, w0, y0_0, y0_1, e8_0, h0⟩ := (fH_o (by decide) (by decide)).mp f0
  cases e9_0
  cases e8_0
  have q0 : fB K n (p) 203 [fR x0, fI x1, fI x2, fI x3] σ := by
    refine (fH_o (by decide) (by decide)).mpr ⟨x0, g0, _, rfl, w0, x1, x2, x3, rfl, Or.inl ⟨by omega, Or.inl h0⟩⟩
  exact ⟨p, fun _ => rfl, ⟨(fun q h => by cases h), fun q h => (by cases h), (fun f h => by cases h), (aAllc ⟨_, rfl, (fF_b (r := 3252) (by decide) rfl).mpr q0⟩ (fun f h => by cases h))⟩, [], List.mem_cons_self, fun f h => (by cases h)⟩
set_option maxRecDepth 8192 in
theorem rw_ruAHd {K : Nat → Nat} {n : Nat} : aGho (fF K n) fa_T K n (fJX K n) ag_ruAHd := by
  refine aGho_of ⟨rfl, rfl⟩ ?_
  intro p σ ρ hH hX hA hM
  have hG := aAG_of hA.1 (fun i e v he hv => (hA.2 i e v he hv).1)
  clear hA
  obtain ⟨v0, v1, v2, v3, v4, rfl, g0, g1, g2, g3, g4⟩ := fA_5 hG
  clear hG
  obtain ⟨x0, rfl, b0, d0⟩ := fG_ref (by decide) g0
  obtain ⟨x1, rfl, b1, d1⟩ := aG_int g1
  dsimp only at b1 d1
  obtain ⟨x2, rfl, b2, d2⟩ := aG_int g2
  dsimp only at b2 d2
  obtain ⟨x3, rfl, b3, d3⟩ := aG_int g3
  dsimp only at b3 d3
  obtain ⟨x4, rfl, b4, d4⟩ := aG_int g4
  dsimp only at b4 d4
  obtain ⟨m1, m2, m3, m4⟩ := hM
  have l0 : 0 ≤ (1 * x3.toInt + (-8 * x1.toInt + 0)) + -8 := by
    obtain ⟨z, e6, e7⟩ := m3 ([(3, 1), (1, -8)], -8) (List.mem_of_getElem? (i := 0) rfl)
    obtain rfl : (1 * x3.toInt + (-8 * x1.toInt + 0)) = z := Option.some.inj (show some (1 * x3.toInt + (-8 * x1.toInt + 0)) = some z from e6)
    exact e7
  have f0 : fB K n p 200 [fR x0, fI x1, fI x2, fI x3] σ := by
    obtain ⟨w, e6, e7⟩ := m4 (3204, [0, 1, 2, 3]) (List.mem_of_getElem? (i := 0) rfl)
    obtain rfl : [fR x0, fI x1, fI x2, fI x3] = w := Option.some.inj (show some [fR x0, fI x1, fI x2, fI x3] = some w from e6)
    exact (fF_b (r := 3204) (by decide) rfl).mp e7
  clear m1 m2 m3 m4
  obtain ⟨b9_0, g0, r9_0, e9_0, w0, y0_0, y0_1, y0_2, e8_0, h0, i0, q0⟩ := (fH_o (by decide) (by decide)).mp f0
  cases e9_0
  cases e8_0
  have q0 : fB K n (p) 201 [fR x0, fI x1, fI x2, fI x4] σ := by
    refine (fH_o (by decide) (by decide)).mpr ⟨x0, g0, _, rfl, w0, x1, x2, x4, rfl, fun ⟨j, j1, j2, j3⟩ => (q0 j (by omega)).2 j3, fun j h1 h2 => by omega⟩
  exact ⟨p, fun _ => rfl, ⟨(fun q h => by cases h), fun q h => (by cases h), (fun f h => by cases h), (aAllc ⟨_, rfl, (fF_b (r := 3220) (by decide) rfl).mpr q0⟩ (fun f h => by cases h))⟩, [], List.mem_cons_self, fun f h => (by cases h)⟩
set_option maxRecDepth 8192 in
theorem rw_ruAHe {K : Nat → Nat} {n : Nat} : aGho (fF K n) fa_T K n (fJX K n) ag_ruAHe := by
  refine aGho_of ⟨rfl, rfl⟩ ?_
  intro p σ ρ hH hX hA hM
  have hG := aAG_of hA.1 (fun i e v he hv => (hA.2 i e v he hv).1)
  clear hA
  obtain ⟨v0, v1, v2, v3, v4, v5, rfl, g0, g1, g2, g3, g4, g5⟩ := fA_6 hG
  clear hG
  obtain ⟨x0, rfl, b0, d0⟩ := fG_ref (by decide) g0
  obtain ⟨x1, rfl, b1, d1⟩ := aG_int g1
  dsimp only at b1 d1
  obtain ⟨x2, rfl, b2, d2⟩ := aG_int g2
  dsimp only at b2 d2
  obtain ⟨x3, rfl, b3, d3⟩ := aG_int g3
  dsimp only at b3 d3
  obtain ⟨x4, rfl, b4, d4⟩ := aG_int g4
  dsimp only at b4 d4
  obtain ⟨x5, rfl, b5, d5⟩ := aG_int g5
  dsimp only at b5 d5
  obtain ⟨m1, m2, m3, m4⟩ := hM
  have f0 : fB K n p 200 [fR x0, fI x1, fI x2, fI x3] σ := by
    obtain ⟨w, e6, e7⟩ := m4 (3204, [0, 1, 2, 3]) (List.mem_of_getElem? (i := 0) rfl)
    obtain rfl : [fR x0, fI x1, fI x2, fI x3] = w := Option.some.inj (show some [fR x0, fI x1, fI x2, fI x3] = some w from e6)
    exact (fF_b (r := 3204) (by decide) rfl).mp e7
  have f1 : fB K n p 204 [fI x1, fI x3, fI x5] σ := by
    obtain ⟨w, e6, e7⟩ := m4 (3267, [1, 3, 5]) (List.mem_of_getElem? (i := 1) rfl)
    obtain rfl : [fI x1, fI x3, fI x5] = w := Option.some.inj (show some [fI x1, fI x3, fI x5] = some w from e6)
    exact (fF_b (r := 3267) (by decide) rfl).mp e7
  clear m1 m2 m3 m4
  obtain ⟨b9_0, g0, r9_0, e9_0, w0, y0_0, y0_1, y0_2, e8_0, h0, i0, q0⟩ := (fH_o (by decide) (by decide)).mp f0
  cases e9_0
  cases e8_0
  obtain ⟨y1_0, y1_1, y1_2, e8_1, h1, i1, q1⟩ := (fP_o (by decide)).mp f1
  cases e8_1
  have q0 : fB K n (p) 201 [fR x0, fI x1, fI x2, fI x4] σ := by
    refine (fH_o (by decide) (by decide)).mpr ⟨x0, g0, _, rfl, w0, x1, x2, x4, rfl, ?_, fun j h1 h2 => by omega⟩
    rintro ⟨j, j1, j2, j3⟩
    by_cases hj : 8 * x1.toInt + j < x3.toInt
    · exact (q0 j hj).2 j3
    · have := fHp_no (s := x1.toInt.toNat) (i := (x3.toInt - 8 * x1.toInt).toNat) (j := j) (by omega) (by omega)
      omega
  exact ⟨p, fun _ => rfl, ⟨(fun q h => by cases h), fun q h => (by cases h), (fun f h => by cases h), (aAllc ⟨_, rfl, (fF_b (r := 3220) (by decide) rfl).mpr q0⟩ (fun f h => by cases h))⟩, [], List.mem_cons_self, fun f h => (by cases h)⟩
set_option maxRecDepth 8192 in
theorem rw_ruAR0 {K : Nat → Nat} {n : Nat} : aGho (fF K n) fa_T K n (fJX K n) ag_ruAR0 := by
  refine aGho_of ⟨rfl, rfl⟩ ?_
  intro p σ ρ hH hX hA hM
  have hG := aAG_of hA.1 (fun i e v he hv => (hA.2 i e v he hv).1)
  clear hA
  obtain ⟨v0, v1, v2, v3, v4, rfl, g0, g1, g2, g3, g4⟩ := fA_5 hG
  clear hG
  obtain ⟨x0, rfl, b0, d0⟩ := fG_ref (by decide) g0
  obtain ⟨x1, rfl, b1, d1⟩ := aG_int g1
  dsimp only at b1 d1
  obtain ⟨x2, rfl, b2, d2⟩ := aG_int g2
  dsimp only at b2 d2
  obtain ⟨x3, rfl, b3, d3⟩ := aG_int g3
  dsimp only at b3 d3
  obtain ⟨x4, rfl, b4, d4⟩ := aG_int g4
  dsimp only at b4 d4
  obtain ⟨m1, m2, m3, m4⟩ := hM
  have f0 : fB K n p 201 [fR x0, fI x1, fI x2, fI x3] σ := by
    obtain ⟨w, e6, e7⟩ := m4 (3220, [0, 1, 2, 3]) (List.mem_of_getElem? (i := 0) rfl)
    obtain rfl : [fR x0, fI x1, fI x2, fI x3] = w := Option.some.inj (show some [fR x0, fI x1, fI x2, fI x3] = some w from e6)
    exact (fF_b (r := 3220) (by decide) rfl).mp e7
  clear m1 m2 m3 m4
  obtain ⟨b9_0, g0, r9_0, e9_0, w0, y0_0, y0_1, y0_2, e8_0, n0, r0⟩ := (fH_o (by decide) (by decide)).mp f0
  cases e9_0
  cases e8_0
  have q0 : fB K n (p) 202 [fR x0, fI x1, fI x2, fI x3, fI x4] σ := by
    refine (fH_o (by decide) (by decide)).mpr ⟨x0, g0, _, rfl, w0, x1, x2, x3, x4, rfl, n0, r0, fun q h1 h2 => by omega⟩
  exact ⟨p, fun _ => rfl, ⟨(fun q h => by cases h), fun q h => (by cases h), (fun f h => by cases h), (aAllc ⟨_, rfl, (fF_b (r := 3237) (by decide) rfl).mpr q0⟩ (fun f h => by cases h))⟩, [], List.mem_cons_self, fun f h => (by cases h)⟩
set_option maxRecDepth 8192 in
theorem rw_ruARn {K : Nat → Nat} {n : Nat} : aGho (fF K n) fa_T K n (fJX K n) ag_ruARn := by
  refine aGho_of ⟨rfl, rfl⟩ ?_
  intro p σ ρ hH hX hA hM
  have hG := aAG_of hA.1 (fun i e v he hv => (hA.2 i e v he hv).1)
  clear hA
  obtain ⟨v0, v1, v2, v3, v4, v5, v6, v7, v8, rfl, g0, g1, g2, g3, g4, g5, g6, g7, g8⟩ := fA_9 hG
  clear hG
  obtain ⟨x0, rfl, b0, d0⟩ := fG_ref (by decide) g0
  obtain ⟨x1, rfl, b1, d1⟩ := aG_int g1
  dsimp only at b1 d1
  obtain ⟨x2, rfl, b2, d2⟩ := aG_int g2
  dsimp only at b2 d2
  obtain ⟨x3, rfl, b3, d3⟩ := aG_int g3
  dsimp only at b3 d3
  obtain ⟨x4, rfl, b4, d4⟩ := aG_int g4
  dsimp only at b4 d4
  obtain ⟨x5, rfl, b5, d5⟩ := aG_int g5
  dsimp only at b5 d5
  obtain ⟨x6, rfl, b6, d6⟩ := aG_int g6
  dsimp only at b6 d6
  obtain ⟨x7, rfl, b7, d7⟩ := aG_int g7
  dsimp only at b7 d7
  obtain ⟨x8, rfl, b8, d8⟩ := fG_ref (by decide) g8
  obtain ⟨m1, m2, m3, m4⟩ := hM
  obtain ⟨a0, c0, fs0, w0, e1, s0, t0, e4⟩ := m1 (0, 0, 8) (List.mem_of_getElem? (i := 0) rfl)
  obtain rfl : x0 = a0 := Sum.inl.inj (Option.some.inj (Sum.inr.inj (Sum.inr.inj (Option.some.inj (show some (fR x0) = some _ from e1)))))
  obtain rfl : fR x8 = w0 := Option.some.inj (show some (fR x8) = some w0 from e4)
  clear e1 e4
  obtain ⟨a, mc0, ty0, gc0, ic0, e1, sc0, jc0, e4, e5⟩ := m2 (8, ([(5, 1)], 0), 6) (List.mem_of_getElem? (i := 0) rfl)
  obtain rfl : x8 = a := Sum.inl.inj (Option.some.inj (Sum.inr.inj (Sum.inr.inj (Option.some.inj (show some (fR x8) = some _ from e1)))))
  obtain ⟨gc0, rfl⟩ : ∃ g, gc0 = .inl g := by
    rcases gc0 with g | g
    · exact ⟨g, rfl⟩
    · exact absurd (show some (fI x6) = some (.inr (.inl (g ic0))) from e5) (fun h => by cases h)
  have sc0 : σ x8 = .inl (ty0, mc0, .inl gc0) := sc0
  have ec0 : x6 = gc0 ic0 := Sum.inl.inj (Option.some.inj (show some (fI x6) = some _ from e5))
  have kc0 : (ic0 : Int) = (1 * x5.toInt + 0) + 0 := by
    obtain ⟨z, e6, e7⟩ := e4
    obtain rfl : (1 * x5.toInt + 0) = z := Option.some.inj (show some (1 * x5.toInt + 0) = some z from e6)
    exact e7
  clear e1 e4 e5
  obtain rfl : ic0 = x5.toInt.toNat := by omega
  have l0 : 0 ≤ (1 * x7.toInt + (-1 * x4.toInt + 0)) + -1 := by
    obtain ⟨z, e6, e7⟩ := m3 ([(7, 1), (4, -1)], -1) (List.mem_of_getElem? (i := 0) rfl)
    obtain rfl : (1 * x7.toInt + (-1 * x4.toInt + 0)) = z := Option.some.inj (show some (1 * x7.toInt + (-1 * x4.toInt + 0)) = some z from e6)
    exact e7
  have l1 : 0 ≤ (-1 * x7.toInt + (1 * x4.toInt + 0)) + 1 := by
    obtain ⟨z, e6, e7⟩ := m3 ([(7, -1), (4, 1)], 1) (List.mem_of_getElem? (i := 1) rfl)
    obtain rfl : (-1 * x7.toInt + (1 * x4.toInt + 0)) = z := Option.some.inj (show some (-1 * x7.toInt + (1 * x4.toInt + 0)) = some z from e6)
    exact e7
  have f0 : fB K n p 202 [fR x0, fI x1, fI x2, fI x3, fI x4] σ := by
    obtain ⟨w, e6, e7⟩ := m4 (3237, [0, 1, 2, 3, 4]) (List.mem_of_getElem? (i := 0) rfl)
    obtain rfl : [fR x0, fI x1, fI x2, fI x3, fI x4] = w := Option.some.inj (show some [fR x0, fI x1, fI x2, fI x3, fI x4] = some w from e6)
    exact (fF_b (r := 3237) (by decide) rfl).mp e7
  have f1 : fB K n p 18 [fI x1, fI x3, fI x4, fI x5] σ := by
    obtain ⟨w, e6, e7⟩ := m4 (292, [1, 3, 4, 5]) (List.mem_of_getElem? (i := 1) rfl)
    obtain rfl : [fI x1, fI x3, fI x4, fI x5] = w := Option.some.inj (show some [fI x1, fI x3, fI x4, fI x5] = some w from e6)
    exact (fF_b (r := 292) (by decide) rfl).mp e7
  clear m1 m2 m3 m4
  obtain ⟨b9_0, g0, r9_0, e9_0, w0, y0_0, y0_1, y0_2, y0_3, e8_0, n0, r0, m0⟩ := (fH_o (by decide) (by decide)).mp f0
  cases e9_0
  cases e8_0
  obtain ⟨y1_0, y1_1, y1_2, y1_3, e9_1, h1, i1, t1_⟩ := f1
  cases e9_1
  obtain rfl := fMe_c w0 s0 t0 sc0
  have q0 : fB K n (p) 202 [fR x0, fI x1, fI x2, fI x3, fI x7] σ := by
    refine (fH_o (by decide) (by decide)).mpr ⟨x0, g0, _, rfl, w0, x1, x2, x3, x7, rfl, n0, r0, fun q h1 h2 => ?_⟩
    by_cases hq : q < x4.toInt
    · exact m0 q h1 hq
    · rw [show q = x4.toInt by omega, ← t1_, ← ec0]
      omega
  exact ⟨p, fun _ => rfl, ⟨(fun q h => by cases h), fun q h => (by cases h), (fun f h => by cases h), (aAllc ⟨_, rfl, (fF_b (r := 3237) (by decide) rfl).mpr q0⟩ (fun f h => by cases h))⟩, [], List.mem_cons_self, fun f h => (by cases h)⟩
set_option maxRecDepth 8192 in
theorem rw_ruARx {K : Nat → Nat} {n : Nat} : aGho (fF K n) fa_T K n (fJX K n) ag_ruARx := by
  refine aGho_of ⟨rfl, rfl⟩ ?_
  intro p σ ρ hH hX hA hM
  have hG := aAG_of hA.1 (fun i e v he hv => (hA.2 i e v he hv).1)
  clear hA
  obtain ⟨v0, v1, v2, v3, v4, v5, rfl, g0, g1, g2, g3, g4, g5⟩ := fA_6 hG
  clear hG
  obtain ⟨x0, rfl, b0, d0⟩ := fG_ref (by decide) g0
  obtain ⟨x1, rfl, b1, d1⟩ := aG_int g1
  dsimp only at b1 d1
  obtain ⟨x2, rfl, b2, d2⟩ := aG_int g2
  dsimp only at b2 d2
  obtain ⟨x3, rfl, b3, d3⟩ := aG_int g3
  dsimp only at b3 d3
  obtain ⟨x4, rfl, b4, d4⟩ := aG_int g4
  dsimp only at b4 d4
  obtain ⟨x5, rfl, b5, d5⟩ := aG_int g5
  dsimp only at b5 d5
  obtain ⟨m1, m2, m3, m4⟩ := hM
  have l0 : 0 ≤ (1 * x4.toInt + (-1 * x5.toInt + 0)) + -1 := by
    obtain ⟨z, e6, e7⟩ := m3 ([(4, 1), (5, -1)], -1) (List.mem_of_getElem? (i := 0) rfl)
    obtain rfl : (1 * x4.toInt + (-1 * x5.toInt + 0)) = z := Option.some.inj (show some (1 * x4.toInt + (-1 * x5.toInt + 0)) = some z from e6)
    exact e7
  have f0 : fB K n p 202 [fR x0, fI x1, fI x2, fI x3, fI x4] σ := by
    obtain ⟨w, e6, e7⟩ := m4 (3237, [0, 1, 2, 3, 4]) (List.mem_of_getElem? (i := 0) rfl)
    obtain rfl : [fR x0, fI x1, fI x2, fI x3, fI x4] = w := Option.some.inj (show some [fR x0, fI x1, fI x2, fI x3, fI x4] = some w from e6)
    exact (fF_b (r := 3237) (by decide) rfl).mp e7
  have f1 : fB K n p 19 [fI x1, fI x3, fI x5] σ := by
    obtain ⟨w, e6, e7⟩ := m4 (307, [1, 3, 5]) (List.mem_of_getElem? (i := 1) rfl)
    obtain rfl : [fI x1, fI x3, fI x5] = w := Option.some.inj (show some [fI x1, fI x3, fI x5] = some w from e6)
    exact (fF_b (r := 307) (by decide) rfl).mp e7
  clear m1 m2 m3 m4
  obtain ⟨b9_0, g0, r9_0, e9_0, w0, y0_0, y0_1, y0_2, y0_3, e8_0, n0, r0, m0⟩ := (fH_o (by decide) (by decide)).mp f0
  cases e9_0
  cases e8_0
  obtain ⟨y1_0, y1_1, y1_2, e9_1, h1⟩ := f1
  cases e9_1
  have q0 : fB K n (p) 207 [fR x0, fI x1, fI x2, fI x3] σ := by
    refine (fH_o (by decide) (by decide)).mpr ⟨x0, g0, _, rfl, w0, x1, x2, x3, rfl, n0, fun j j1 j2 => ?_⟩
    by_cases hj : j < x3.toInt
    · exact r0 j j1 hj
    · obtain rfl : j = x3.toInt := by omega
      rintro ⟨q, q1, q2, q3, q4, q5⟩
      exact q4 (m0 q q1 (by omega))
  exact ⟨p, fun _ => rfl, ⟨(fun q h => by cases h), fun q h => (by cases h), (fun f h => by cases h), (aAllc ⟨_, rfl, (fF_b (r := 3316) (by decide) rfl).mpr q0⟩ (fun f h => by cases h))⟩, [], List.mem_cons_self, fun f h => (by cases h)⟩
set_option maxRecDepth 8192 in
theorem rw_ruARq {K : Nat → Nat} {n : Nat} : aGho (fF K n) fa_T K n (fJX K n) ag_ruARq := by
  refine aGho_of ⟨rfl, rfl⟩ ?_
  intro p σ ρ hH hX hA hM
  have hG := aAG_of hA.1 (fun i e v he hv => (hA.2 i e v he hv).1)
  clear hA
  obtain ⟨v0, v1, v2, v3, v4, rfl, g0, g1, g2, g3, g4⟩ := fA_5 hG
  clear hG
  obtain ⟨x0, rfl, b0, d0⟩ := fG_ref (by decide) g0
  obtain ⟨x1, rfl, b1, d1⟩ := aG_int g1
  dsimp only at b1 d1
  obtain ⟨x2, rfl, b2, d2⟩ := aG_int g2
  dsimp only at b2 d2
  obtain ⟨x3, rfl, b3, d3⟩ := aG_int g3
  dsimp only at b3 d3
  obtain ⟨x4, rfl, b4, d4⟩ := aG_int g4
  dsimp only at b4 d4
  obtain ⟨m1, m2, m3, m4⟩ := hM
  have l0 : 0 ≤ (1 * x4.toInt + (-1 * x3.toInt + 0)) + -1 := by
    obtain ⟨z, e6, e7⟩ := m3 ([(4, 1), (3, -1)], -1) (List.mem_of_getElem? (i := 0) rfl)
    obtain rfl : (1 * x4.toInt + (-1 * x3.toInt + 0)) = z := Option.some.inj (show some (1 * x4.toInt + (-1 * x3.toInt + 0)) = some z from e6)
    exact e7
  have l1 : 0 ≤ (-1 * x4.toInt + (1 * x3.toInt + 0)) + 1 := by
    obtain ⟨z, e6, e7⟩ := m3 ([(4, -1), (3, 1)], 1) (List.mem_of_getElem? (i := 1) rfl)
    obtain rfl : (-1 * x4.toInt + (1 * x3.toInt + 0)) = z := Option.some.inj (show some (-1 * x4.toInt + (1 * x3.toInt + 0)) = some z from e6)
    exact e7
  have f0 : fB K n p 207 [fR x0, fI x1, fI x2, fI x3] σ := by
    obtain ⟨w, e6, e7⟩ := m4 (3316, [0, 1, 2, 3]) (List.mem_of_getElem? (i := 0) rfl)
    obtain rfl : [fR x0, fI x1, fI x2, fI x3] = w := Option.some.inj (show some [fR x0, fI x1, fI x2, fI x3] = some w from e6)
    exact (fF_b (r := 3316) (by decide) rfl).mp e7
  clear m1 m2 m3 m4
  obtain ⟨b9_0, g0, r9_0, e9_0, w0, y0_0, y0_1, y0_2, e8_0, n0, r0⟩ := (fH_o (by decide) (by decide)).mp f0
  cases e9_0
  cases e8_0
  have q0 : fB K n (p) 201 [fR x0, fI x1, fI x2, fI x4] σ := by
    refine (fH_o (by decide) (by decide)).mpr ⟨x0, g0, _, rfl, w0, x1, x2, x4, rfl, n0, fun j j1 j2 => r0 j j1 (by omega)⟩
  exact ⟨p, fun _ => rfl, ⟨(fun q h => by cases h), fun q h => (by cases h), (fun f h => by cases h), (aAllc ⟨_, rfl, (fF_b (r := 3220) (by decide) rfl).mpr q0⟩ (fun f h => by cases h))⟩, [], List.mem_cons_self, fun f h => (by cases h)⟩
set_option maxRecDepth 8192 in
theorem rw_ruARe {K : Nat → Nat} {n : Nat} : aGho (fF K n) fa_T K n (fJX K n) ag_ruARe := by
  refine aGho_of ⟨rfl, rfl⟩ ?_
  intro p σ ρ hH hX hA hM
  have hG := aAG_of hA.1 (fun i e v he hv => (hA.2 i e v he hv).1)
  clear hA
  obtain ⟨v0, v1, v2, v3, v4, rfl, g0, g1, g2, g3, g4⟩ := fA_5 hG
  clear hG
  obtain ⟨x0, rfl, b0, d0⟩ := fG_ref (by decide) g0
  obtain ⟨x1, rfl, b1, d1⟩ := aG_int g1
  dsimp only at b1 d1
  obtain ⟨x2, rfl, b2, d2⟩ := aG_int g2
  dsimp only at b2 d2
  obtain ⟨x3, rfl, b3, d3⟩ := aG_int g3
  dsimp only at b3 d3
  obtain ⟨x4, rfl, b4, d4⟩ := aG_int g4
  dsimp only at b4 d4
  obtain ⟨m1, m2, m3, m4⟩ := hM
  have f0 : fB K n p 201 [fR x0, fI x1, fI x2, fI x3] σ := by
    obtain ⟨w, e6, e7⟩ := m4 (3220, [0, 1, 2, 3]) (List.mem_of_getElem? (i := 0) rfl)
    obtain rfl : [fR x0, fI x1, fI x2, fI x3] = w := Option.some.inj (show some [fR x0, fI x1, fI x2, fI x3] = some w from e6)
    exact (fF_b (r := 3220) (by decide) rfl).mp e7
  clear m1 m2 m3 m4
  obtain ⟨b9_0, g0, r9_0, e9_0, w0, y0_0, y0_1, y0_2, e8_0, n0, r0⟩ := (fH_o (by decide) (by decide)).mp f0
  cases e9_0
  cases e8_0
  have q0 : fB K n (p) 203 [fR x0, fI x1, fI x2, fI x4] σ := by
    refine (fH_o (by decide) (by decide)).mpr ⟨x0, g0, _, rfl, w0, x1, x2, x4, rfl, Or.inr ⟨by omega, fun h => h.elim n0 (fun ⟨j, j1, j2, j3⟩ => r0 j j1 (by omega) j3)⟩⟩
  exact ⟨p, fun _ => rfl, ⟨(fun q h => by cases h), fun q h => (by cases h), (fun f h => by cases h), (aAllc ⟨_, rfl, (fF_b (r := 3252) (by decide) rfl).mpr q0⟩ (fun f h => by cases h))⟩, [], List.mem_cons_self, fun f h => (by cases h)⟩
set_option maxRecDepth 8192 in
theorem rw_ruYR5 {K : Nat → Nat} {n : Nat} : aGho (fF K n) fa_T K n (fJX K n) ag_ruYR5 := by
  refine aGho_of ⟨rfl, rfl⟩ ?_
  intro p σ ρ hH hX hA hM
  have hG := aAG_of hA.1 (fun i e v he hv => (hA.2 i e v he hv).1)
  clear hA
  obtain ⟨v0, v1, v2, v3, v4, v5, v6, v7, v8, v9, rfl, g0, g1, g2, g3, g4, g5, g6, g7, g8, g9⟩ := fA_10 hG
  clear hG
  obtain ⟨x0, rfl, b0, d0⟩ := fG_ref (by decide) g0
  obtain ⟨x1, rfl, b1, d1⟩ := aG_int g1
  dsimp only at b1 d1
  obtain ⟨x2, rfl, b2, d2⟩ := aG_int g2
  dsimp only at b2 d2
  obtain ⟨x3, rfl, b3, d3⟩ := aG_int g3
  dsimp only at b3 d3
  obtain ⟨x4, rfl, b4, d4⟩ := aG_int g4
  dsimp only at b4 d4
  obtain ⟨x5, rfl, b5, d5⟩ := aG_int g5
  dsimp only at b5 d5
  obtain ⟨x6, rfl, b6, d6⟩ := aG_int g6
  dsimp only at b6 d6
  obtain ⟨x7, rfl, b7, d7⟩ := aG_int g7
  dsimp only at b7 d7
  obtain ⟨x8, rfl, b8, d8⟩ := aG_int g8
  dsimp only at b8 d8
  obtain ⟨x9, rfl, b9, d9⟩ := fG_ref (by decide) g9
  obtain ⟨m1, m2, m3, m4⟩ := hM
  obtain ⟨a0, c0, fs0, w0, e1, s0, t0, e4⟩ := m1 (0, 0, 9) (List.mem_of_getElem? (i := 0) rfl)
  obtain rfl : x0 = a0 := Sum.inl.inj (Option.some.inj (Sum.inr.inj (Sum.inr.inj (Option.some.inj (show some (fR x0) = some _ from e1)))))
  obtain rfl : fR x9 = w0 := Option.some.inj (show some (fR x9) = some w0 from e4)
  clear e1 e4
  obtain ⟨a, mc0, ty0, gc0, ic0, e1, sc0, jc0, e4, e5⟩ := m2 (9, ([(5, 1)], 0), 6) (List.mem_of_getElem? (i := 0) rfl)
  obtain rfl : x9 = a := Sum.inl.inj (Option.some.inj (Sum.inr.inj (Sum.inr.inj (Option.some.inj (show some (fR x9) = some _ from e1)))))
  obtain ⟨gc0, rfl⟩ : ∃ g, gc0 = .inl g := by
    rcases gc0 with g | g
    · exact ⟨g, rfl⟩
    · exact absurd (show some (fI x6) = some (.inr (.inl (g ic0))) from e5) (fun h => by cases h)
  have sc0 : σ x9 = .inl (ty0, mc0, .inl gc0) := sc0
  have ec0 : x6 = gc0 ic0 := Sum.inl.inj (Option.some.inj (show some (fI x6) = some _ from e5))
  have kc0 : (ic0 : Int) = (1 * x5.toInt + 0) + 0 := by
    obtain ⟨z, e6, e7⟩ := e4
    obtain rfl : (1 * x5.toInt + 0) = z := Option.some.inj (show some (1 * x5.toInt + 0) = some z from e6)
    exact e7
  clear e1 e4 e5
  obtain rfl : ic0 = x5.toInt.toNat := by omega
  have l0 : 0 ≤ (1 * x6.toInt + (-8 * x2.toInt + (-1 * x7.toInt + 0))) + 0 := by
    obtain ⟨z, e6, e7⟩ := m3 ([(6, 1), (2, -8), (7, -1)], 0) (List.mem_of_getElem? (i := 0) rfl)
    obtain rfl : (1 * x6.toInt + (-8 * x2.toInt + (-1 * x7.toInt + 0))) = z := Option.some.inj (show some (1 * x6.toInt + (-8 * x2.toInt + (-1 * x7.toInt + 0))) = some z from e6)
    exact e7
  have l1 : 0 ≤ (-1 * x6.toInt + (8 * x2.toInt + (1 * x7.toInt + 0))) + 0 := by
    obtain ⟨z, e6, e7⟩ := m3 ([(6, -1), (2, 8), (7, 1)], 0) (List.mem_of_getElem? (i := 1) rfl)
    obtain rfl : (-1 * x6.toInt + (8 * x2.toInt + (1 * x7.toInt + 0))) = z := Option.some.inj (show some (-1 * x6.toInt + (8 * x2.toInt + (1 * x7.toInt + 0))) = some z from e6)
    exact e7
  have l2 : 0 ≤ (1 * x7.toInt + 0) + -5 := by
    obtain ⟨z, e6, e7⟩ := m3 ([(7, 1)], -5) (List.mem_of_getElem? (i := 2) rfl)
    obtain rfl : (1 * x7.toInt + 0) = z := Option.some.inj (show some (1 * x7.toInt + 0) = some z from e6)
    exact e7
  have l3 : 0 ≤ (-1 * x7.toInt + 0) + 5 := by
    obtain ⟨z, e6, e7⟩ := m3 ([(7, -1)], 5) (List.mem_of_getElem? (i := 3) rfl)
    obtain rfl : (-1 * x7.toInt + 0) = z := Option.some.inj (show some (-1 * x7.toInt + 0) = some z from e6)
    exact e7
  have f0 : fB K n p 202 [fR x0, fI x1, fI x2, fI x3, fI x4] σ := by
    obtain ⟨w, e6, e7⟩ := m4 (3237, [0, 1, 2, 3, 4]) (List.mem_of_getElem? (i := 0) rfl)
    obtain rfl : [fR x0, fI x1, fI x2, fI x3, fI x4] = w := Option.some.inj (show some [fR x0, fI x1, fI x2, fI x3, fI x4] = some w from e6)
    exact (fF_b (r := 3237) (by decide) rfl).mp e7
  have f1 : fB K n p 18 [fI x1, fI x3, fI x4, fI x5] σ := by
    obtain ⟨w, e6, e7⟩ := m4 (292, [1, 3, 4, 5]) (List.mem_of_getElem? (i := 1) rfl)
    obtain rfl : [fI x1, fI x3, fI x4, fI x5] = w := Option.some.inj (show some [fI x1, fI x3, fI x4, fI x5] = some w from e6)
    exact (fF_b (r := 292) (by decide) rfl).mp e7
  clear m1 m2 m3 m4
  obtain ⟨b9_0, g0, r9_0, e9_0, w0, y0_0, y0_1, y0_2, y0_3, e8_0, n0, r0, m0⟩ := (fH_o (by decide) (by decide)).mp f0
  cases e9_0
  cases e8_0
  obtain ⟨y1_0, y1_1, y1_2, y1_3, e9_1, h1, i1, t1_⟩ := f1
  cases e9_1
  obtain rfl := fMe_c w0 s0 t0 sc0
  have q0 : fB K n (p) 203 [fR x0, fI x1, fI x2, fI x8] σ := by
    refine (fH_o (by decide) (by decide)).mpr ⟨x0, g0, _, rfl, w0, x1, x2, x8, rfl, Or.inl ⟨by omega, Or.inr ⟨x3.toInt, by omega, by omega, x4.toInt, h1, i1, m0, ?_, ?_⟩⟩⟩
    · rw [← t1_, ← ec0]
      omega
    · rw [← t1_, ← ec0]
      unfold fHit
      omega
  exact ⟨p, fun _ => rfl, ⟨(fun q h => by cases h), fun q h => (by cases h), (fun f h => by cases h), (aAllc ⟨_, rfl, (fF_b (r := 3252) (by decide) rfl).mpr q0⟩ (fun f h => by cases h))⟩, [], List.mem_cons_self, fun f h => (by cases h)⟩
set_option maxRecDepth 8192 in
theorem rw_ruYR4 {K : Nat → Nat} {n : Nat} : aGho (fF K n) fa_T K n (fJX K n) ag_ruYR4 := by
  refine aGho_of ⟨rfl, rfl⟩ ?_
  intro p σ ρ hH hX hA hM
  have hG := aAG_of hA.1 (fun i e v he hv => (hA.2 i e v he hv).1)
  clear hA
  obtain ⟨v0, v1, v2, v3, v4, v5, v6, v7, v8, v9, rfl, g0, g1, g2, g3, g4, g5, g6, g7, g8, g9⟩ := fA_10 hG
  clear hG
  obtain ⟨x0, rfl, b0, d0⟩ := fG_ref (by decide) g0
  obtain ⟨x1, rfl, b1, d1⟩ := aG_int g1
  dsimp only at b1 d1
  obtain ⟨x2, rfl, b2, d2⟩ := aG_int g2
  dsimp only at b2 d2
  obtain ⟨x3, rfl, b3, d3⟩ := aG_int g3
  dsimp only at b3 d3
  obtain ⟨x4, rfl, b4, d4⟩ := aG_int g4
  dsimp only at b4 d4
  obtain ⟨x5, rfl, b5, d5⟩ := aG_int g5
  dsimp only at b5 d5
  obtain ⟨x6, rfl, b6, d6⟩ := aG_int g6
  dsimp only at b6 d6
  obtain ⟨x7, rfl, b7, d7⟩ := aG_int g7
  dsimp only at b7 d7
  obtain ⟨x8, rfl, b8, d8⟩ := aG_int g8
  dsimp only at b8 d8
  obtain ⟨x9, rfl, b9, d9⟩ := fG_ref (by decide) g9
  obtain ⟨m1, m2, m3, m4⟩ := hM
  obtain ⟨a0, c0, fs0, w0, e1, s0, t0, e4⟩ := m1 (0, 0, 9) (List.mem_of_getElem? (i := 0) rfl)
  obtain rfl : x0 = a0 := Sum.inl.inj (Option.some.inj (Sum.inr.inj (Sum.inr.inj (Option.some.inj (show some (fR x0) = some _ from e1)))))
  obtain rfl : fR x9 = w0 := Option.some.inj (show some (fR x9) = some w0 from e4)
  clear e1 e4
  obtain ⟨a, mc0, ty0, gc0, ic0, e1, sc0, jc0, e4, e5⟩ := m2 (9, ([(5, 1)], 0), 6) (List.mem_of_getElem? (i := 0) rfl)
  obtain rfl : x9 = a := Sum.inl.inj (Option.some.inj (Sum.inr.inj (Sum.inr.inj (Option.some.inj (show some (fR x9) = some _ from e1)))))
  obtain ⟨gc0, rfl⟩ : ∃ g, gc0 = .inl g := by
    rcases gc0 with g | g
    · exact ⟨g, rfl⟩
    · exact absurd (show some (fI x6) = some (.inr (.inl (g ic0))) from e5) (fun h => by cases h)
  have sc0 : σ x9 = .inl (ty0, mc0, .inl gc0) := sc0
  have ec0 : x6 = gc0 ic0 := Sum.inl.inj (Option.some.inj (show some (fI x6) = some _ from e5))
  have kc0 : (ic0 : Int) = (1 * x5.toInt + 0) + 0 := by
    obtain ⟨z, e6, e7⟩ := e4
    obtain rfl : (1 * x5.toInt + 0) = z := Option.some.inj (show some (1 * x5.toInt + 0) = some z from e6)
    exact e7
  clear e1 e4 e5
  obtain rfl : ic0 = x5.toInt.toNat := by omega
  have l0 : 0 ≤ (1 * x6.toInt + (-8 * x2.toInt + (-1 * x7.toInt + 0))) + 0 := by
    obtain ⟨z, e6, e7⟩ := m3 ([(6, 1), (2, -8), (7, -1)], 0) (List.mem_of_getElem? (i := 0) rfl)
    obtain rfl : (1 * x6.toInt + (-8 * x2.toInt + (-1 * x7.toInt + 0))) = z := Option.some.inj (show some (1 * x6.toInt + (-8 * x2.toInt + (-1 * x7.toInt + 0))) = some z from e6)
    exact e7
  have l1 : 0 ≤ (-1 * x6.toInt + (8 * x2.toInt + (1 * x7.toInt + 0))) + 0 := by
    obtain ⟨z, e6, e7⟩ := m3 ([(6, -1), (2, 8), (7, 1)], 0) (List.mem_of_getElem? (i := 1) rfl)
    obtain rfl : (-1 * x6.toInt + (8 * x2.toInt + (1 * x7.toInt + 0))) = z := Option.some.inj (show some (-1 * x6.toInt + (8 * x2.toInt + (1 * x7.toInt + 0))) = some z from e6)
    exact e7
  have l2 : 0 ≤ (1 * x7.toInt + 0) + -4 := by
    obtain ⟨z, e6, e7⟩ := m3 ([(7, 1)], -4) (List.mem_of_getElem? (i := 2) rfl)
    obtain rfl : (1 * x7.toInt + 0) = z := Option.some.inj (show some (1 * x7.toInt + 0) = some z from e6)
    exact e7
  have l3 : 0 ≤ (-1 * x7.toInt + 0) + 4 := by
    obtain ⟨z, e6, e7⟩ := m3 ([(7, -1)], 4) (List.mem_of_getElem? (i := 3) rfl)
    obtain rfl : (-1 * x7.toInt + 0) = z := Option.some.inj (show some (-1 * x7.toInt + 0) = some z from e6)
    exact e7
  have f0 : fB K n p 202 [fR x0, fI x1, fI x2, fI x3, fI x4] σ := by
    obtain ⟨w, e6, e7⟩ := m4 (3237, [0, 1, 2, 3, 4]) (List.mem_of_getElem? (i := 0) rfl)
    obtain rfl : [fR x0, fI x1, fI x2, fI x3, fI x4] = w := Option.some.inj (show some [fR x0, fI x1, fI x2, fI x3, fI x4] = some w from e6)
    exact (fF_b (r := 3237) (by decide) rfl).mp e7
  have f1 : fB K n p 18 [fI x1, fI x3, fI x4, fI x5] σ := by
    obtain ⟨w, e6, e7⟩ := m4 (292, [1, 3, 4, 5]) (List.mem_of_getElem? (i := 1) rfl)
    obtain rfl : [fI x1, fI x3, fI x4, fI x5] = w := Option.some.inj (show some [fI x1, fI x3, fI x4, fI x5] = some w from e6)
    exact (fF_b (r := 292) (by decide) rfl).mp e7
  clear m1 m2 m3 m4
  obtain ⟨b9_0, g0, r9_0, e9_0, w0, y0_0, y0_1, y0_2, y0_3, e8_0, n0, r0, m0⟩ := (fH_o (by decide) (by decide)).mp f0
  cases e9_0
  cases e8_0
  obtain ⟨y1_0, y1_1, y1_2, y1_3, e9_1, h1, i1, t1_⟩ := f1
  cases e9_1
  obtain rfl := fMe_c w0 s0 t0 sc0
  have q0 : fB K n (p) 203 [fR x0, fI x1, fI x2, fI x8] σ := by
    refine (fH_o (by decide) (by decide)).mpr ⟨x0, g0, _, rfl, w0, x1, x2, x8, rfl, Or.inl ⟨by omega, Or.inr ⟨x3.toInt, by omega, by omega, x4.toInt, h1, i1, m0, ?_, ?_⟩⟩⟩
    · rw [← t1_, ← ec0]
      omega
    · rw [← t1_, ← ec0]
      unfold fHit
      omega
  exact ⟨p, fun _ => rfl, ⟨(fun q h => by cases h), fun q h => (by cases h), (fun f h => by cases h), (aAllc ⟨_, rfl, (fF_b (r := 3252) (by decide) rfl).mpr q0⟩ (fun f h => by cases h))⟩, [], List.mem_cons_self, fun f h => (by cases h)⟩
set_option maxRecDepth 8192 in
theorem rw_ruYR3 {K : Nat → Nat} {n : Nat} : aGho (fF K n) fa_T K n (fJX K n) ag_ruYR3 := by
  refine aGho_of ⟨rfl, rfl⟩ ?_
  intro p σ ρ hH hX hA hM
  have hG := aAG_of hA.1 (fun i e v he hv => (hA.2 i e v he hv).1)
  clear hA
  obtain ⟨v0, v1, v2, v3, v4, v5, v6, v7, v8, v9, rfl, g0, g1, g2, g3, g4, g5, g6, g7, g8, g9⟩ := fA_10 hG
  clear hG
  obtain ⟨x0, rfl, b0, d0⟩ := fG_ref (by decide) g0
  obtain ⟨x1, rfl, b1, d1⟩ := aG_int g1
  dsimp only at b1 d1
  obtain ⟨x2, rfl, b2, d2⟩ := aG_int g2
  dsimp only at b2 d2
  obtain ⟨x3, rfl, b3, d3⟩ := aG_int g3
  dsimp only at b3 d3
  obtain ⟨x4, rfl, b4, d4⟩ := aG_int g4
  dsimp only at b4 d4
  obtain ⟨x5, rfl, b5, d5⟩ := aG_int g5
  dsimp only at b5 d5
  obtain ⟨x6, rfl, b6, d6⟩ := aG_int g6
  dsimp only at b6 d6
  obtain ⟨x7, rfl, b7, d7⟩ := aG_int g7
  dsimp only at b7 d7
  obtain ⟨x8, rfl, b8, d8⟩ := aG_int g8
  dsimp only at b8 d8
  obtain ⟨x9, rfl, b9, d9⟩ := fG_ref (by decide) g9
  obtain ⟨m1, m2, m3, m4⟩ := hM
  obtain ⟨a0, c0, fs0, w0, e1, s0, t0, e4⟩ := m1 (0, 0, 9) (List.mem_of_getElem? (i := 0) rfl)
  obtain rfl : x0 = a0 := Sum.inl.inj (Option.some.inj (Sum.inr.inj (Sum.inr.inj (Option.some.inj (show some (fR x0) = some _ from e1)))))
  obtain rfl : fR x9 = w0 := Option.some.inj (show some (fR x9) = some w0 from e4)
  clear e1 e4
  obtain ⟨a, mc0, ty0, gc0, ic0, e1, sc0, jc0, e4, e5⟩ := m2 (9, ([(5, 1)], 0), 6) (List.mem_of_getElem? (i := 0) rfl)
  obtain rfl : x9 = a := Sum.inl.inj (Option.some.inj (Sum.inr.inj (Sum.inr.inj (Option.some.inj (show some (fR x9) = some _ from e1)))))
  obtain ⟨gc0, rfl⟩ : ∃ g, gc0 = .inl g := by
    rcases gc0 with g | g
    · exact ⟨g, rfl⟩
    · exact absurd (show some (fI x6) = some (.inr (.inl (g ic0))) from e5) (fun h => by cases h)
  have sc0 : σ x9 = .inl (ty0, mc0, .inl gc0) := sc0
  have ec0 : x6 = gc0 ic0 := Sum.inl.inj (Option.some.inj (show some (fI x6) = some _ from e5))
  have kc0 : (ic0 : Int) = (1 * x5.toInt + 0) + 0 := by
    obtain ⟨z, e6, e7⟩ := e4
    obtain rfl : (1 * x5.toInt + 0) = z := Option.some.inj (show some (1 * x5.toInt + 0) = some z from e6)
    exact e7
  clear e1 e4 e5
  obtain rfl : ic0 = x5.toInt.toNat := by omega
  have l0 : 0 ≤ (1 * x6.toInt + (-8 * x2.toInt + (-1 * x7.toInt + 0))) + 0 := by
    obtain ⟨z, e6, e7⟩ := m3 ([(6, 1), (2, -8), (7, -1)], 0) (List.mem_of_getElem? (i := 0) rfl)
    obtain rfl : (1 * x6.toInt + (-8 * x2.toInt + (-1 * x7.toInt + 0))) = z := Option.some.inj (show some (1 * x6.toInt + (-8 * x2.toInt + (-1 * x7.toInt + 0))) = some z from e6)
    exact e7
  have l1 : 0 ≤ (-1 * x6.toInt + (8 * x2.toInt + (1 * x7.toInt + 0))) + 0 := by
    obtain ⟨z, e6, e7⟩ := m3 ([(6, -1), (2, 8), (7, 1)], 0) (List.mem_of_getElem? (i := 1) rfl)
    obtain rfl : (-1 * x6.toInt + (8 * x2.toInt + (1 * x7.toInt + 0))) = z := Option.some.inj (show some (-1 * x6.toInt + (8 * x2.toInt + (1 * x7.toInt + 0))) = some z from e6)
    exact e7
  have l2 : 0 ≤ (1 * x7.toInt + 0) + -3 := by
    obtain ⟨z, e6, e7⟩ := m3 ([(7, 1)], -3) (List.mem_of_getElem? (i := 2) rfl)
    obtain rfl : (1 * x7.toInt + 0) = z := Option.some.inj (show some (1 * x7.toInt + 0) = some z from e6)
    exact e7
  have l3 : 0 ≤ (-1 * x7.toInt + 0) + 3 := by
    obtain ⟨z, e6, e7⟩ := m3 ([(7, -1)], 3) (List.mem_of_getElem? (i := 3) rfl)
    obtain rfl : (-1 * x7.toInt + 0) = z := Option.some.inj (show some (-1 * x7.toInt + 0) = some z from e6)
    exact e7
  have f0 : fB K n p 202 [fR x0, fI x1, fI x2, fI x3, fI x4] σ := by
    obtain ⟨w, e6, e7⟩ := m4 (3237, [0, 1, 2, 3, 4]) (List.mem_of_getElem? (i := 0) rfl)
    obtain rfl : [fR x0, fI x1, fI x2, fI x3, fI x4] = w := Option.some.inj (show some [fR x0, fI x1, fI x2, fI x3, fI x4] = some w from e6)
    exact (fF_b (r := 3237) (by decide) rfl).mp e7
  have f1 : fB K n p 18 [fI x1, fI x3, fI x4, fI x5] σ := by
    obtain ⟨w, e6, e7⟩ := m4 (292, [1, 3, 4, 5]) (List.mem_of_getElem? (i := 1) rfl)
    obtain rfl : [fI x1, fI x3, fI x4, fI x5] = w := Option.some.inj (show some [fI x1, fI x3, fI x4, fI x5] = some w from e6)
    exact (fF_b (r := 292) (by decide) rfl).mp e7
  clear m1 m2 m3 m4
  obtain ⟨b9_0, g0, r9_0, e9_0, w0, y0_0, y0_1, y0_2, y0_3, e8_0, n0, r0, m0⟩ := (fH_o (by decide) (by decide)).mp f0
  cases e9_0
  cases e8_0
  obtain ⟨y1_0, y1_1, y1_2, y1_3, e9_1, h1, i1, t1_⟩ := f1
  cases e9_1
  obtain rfl := fMe_c w0 s0 t0 sc0
  have q0 : fB K n (p) 203 [fR x0, fI x1, fI x2, fI x8] σ := by
    refine (fH_o (by decide) (by decide)).mpr ⟨x0, g0, _, rfl, w0, x1, x2, x8, rfl, Or.inl ⟨by omega, Or.inr ⟨x3.toInt, by omega, by omega, x4.toInt, h1, i1, m0, ?_, ?_⟩⟩⟩
    · rw [← t1_, ← ec0]
      omega
    · rw [← t1_, ← ec0]
      unfold fHit
      omega
  exact ⟨p, fun _ => rfl, ⟨(fun q h => by cases h), fun q h => (by cases h), (fun f h => by cases h), (aAllc ⟨_, rfl, (fF_b (r := 3252) (by decide) rfl).mpr q0⟩ (fun f h => by cases h))⟩, [], List.mem_cons_self, fun f h => (by cases h)⟩
set_option maxRecDepth 8192 in
theorem rw_ruYR6 {K : Nat → Nat} {n : Nat} : aGho (fF K n) fa_T K n (fJX K n) ag_ruYR6 := by
  refine aGho_of ⟨rfl, rfl⟩ ?_
  intro p σ ρ hH hX hA hM
  have hG := aAG_of hA.1 (fun i e v he hv => (hA.2 i e v he hv).1)
  clear hA
  obtain ⟨v0, v1, v2, v3, v4, v5, v6, v7, v8, v9, rfl, g0, g1, g2, g3, g4, g5, g6, g7, g8, g9⟩ := fA_10 hG
  clear hG
  obtain ⟨x0, rfl, b0, d0⟩ := fG_ref (by decide) g0
  obtain ⟨x1, rfl, b1, d1⟩ := aG_int g1
  dsimp only at b1 d1
  obtain ⟨x2, rfl, b2, d2⟩ := aG_int g2
  dsimp only at b2 d2
  obtain ⟨x3, rfl, b3, d3⟩ := aG_int g3
  dsimp only at b3 d3
  obtain ⟨x4, rfl, b4, d4⟩ := aG_int g4
  dsimp only at b4 d4
  obtain ⟨x5, rfl, b5, d5⟩ := aG_int g5
  dsimp only at b5 d5
  obtain ⟨x6, rfl, b6, d6⟩ := aG_int g6
  dsimp only at b6 d6
  obtain ⟨x7, rfl, b7, d7⟩ := aG_int g7
  dsimp only at b7 d7
  obtain ⟨x8, rfl, b8, d8⟩ := aG_int g8
  dsimp only at b8 d8
  obtain ⟨x9, rfl, b9, d9⟩ := fG_ref (by decide) g9
  obtain ⟨m1, m2, m3, m4⟩ := hM
  obtain ⟨a0, c0, fs0, w0, e1, s0, t0, e4⟩ := m1 (0, 0, 9) (List.mem_of_getElem? (i := 0) rfl)
  obtain rfl : x0 = a0 := Sum.inl.inj (Option.some.inj (Sum.inr.inj (Sum.inr.inj (Option.some.inj (show some (fR x0) = some _ from e1)))))
  obtain rfl : fR x9 = w0 := Option.some.inj (show some (fR x9) = some w0 from e4)
  clear e1 e4
  obtain ⟨a, mc0, ty0, gc0, ic0, e1, sc0, jc0, e4, e5⟩ := m2 (9, ([(5, 1)], 0), 6) (List.mem_of_getElem? (i := 0) rfl)
  obtain rfl : x9 = a := Sum.inl.inj (Option.some.inj (Sum.inr.inj (Sum.inr.inj (Option.some.inj (show some (fR x9) = some _ from e1)))))
  obtain ⟨gc0, rfl⟩ : ∃ g, gc0 = .inl g := by
    rcases gc0 with g | g
    · exact ⟨g, rfl⟩
    · exact absurd (show some (fI x6) = some (.inr (.inl (g ic0))) from e5) (fun h => by cases h)
  have sc0 : σ x9 = .inl (ty0, mc0, .inl gc0) := sc0
  have ec0 : x6 = gc0 ic0 := Sum.inl.inj (Option.some.inj (show some (fI x6) = some _ from e5))
  have kc0 : (ic0 : Int) = (1 * x5.toInt + 0) + 0 := by
    obtain ⟨z, e6, e7⟩ := e4
    obtain rfl : (1 * x5.toInt + 0) = z := Option.some.inj (show some (1 * x5.toInt + 0) = some z from e6)
    exact e7
  clear e1 e4 e5
  obtain rfl : ic0 = x5.toInt.toNat := by omega
  have l0 : 0 ≤ (1 * x6.toInt + (-8 * x2.toInt + (-1 * x7.toInt + 0))) + 0 := by
    obtain ⟨z, e6, e7⟩ := m3 ([(6, 1), (2, -8), (7, -1)], 0) (List.mem_of_getElem? (i := 0) rfl)
    obtain rfl : (1 * x6.toInt + (-8 * x2.toInt + (-1 * x7.toInt + 0))) = z := Option.some.inj (show some (1 * x6.toInt + (-8 * x2.toInt + (-1 * x7.toInt + 0))) = some z from e6)
    exact e7
  have l1 : 0 ≤ (-1 * x6.toInt + (8 * x2.toInt + (1 * x7.toInt + 0))) + 0 := by
    obtain ⟨z, e6, e7⟩ := m3 ([(6, -1), (2, 8), (7, 1)], 0) (List.mem_of_getElem? (i := 1) rfl)
    obtain rfl : (-1 * x6.toInt + (8 * x2.toInt + (1 * x7.toInt + 0))) = z := Option.some.inj (show some (-1 * x6.toInt + (8 * x2.toInt + (1 * x7.toInt + 0))) = some z from e6)
    exact e7
  have l2 : 0 ≤ (1 * x7.toInt + 0) + -6 := by
    obtain ⟨z, e6, e7⟩ := m3 ([(7, 1)], -6) (List.mem_of_getElem? (i := 2) rfl)
    obtain rfl : (1 * x7.toInt + 0) = z := Option.some.inj (show some (1 * x7.toInt + 0) = some z from e6)
    exact e7
  have l3 : 0 ≤ (-1 * x7.toInt + 0) + 6 := by
    obtain ⟨z, e6, e7⟩ := m3 ([(7, -1)], 6) (List.mem_of_getElem? (i := 3) rfl)
    obtain rfl : (-1 * x7.toInt + 0) = z := Option.some.inj (show some (-1 * x7.toInt + 0) = some z from e6)
    exact e7
  have f0 : fB K n p 202 [fR x0, fI x1, fI x2, fI x3, fI x4] σ := by
    obtain ⟨w, e6, e7⟩ := m4 (3237, [0, 1, 2, 3, 4]) (List.mem_of_getElem? (i := 0) rfl)
    obtain rfl : [fR x0, fI x1, fI x2, fI x3, fI x4] = w := Option.some.inj (show some [fR x0, fI x1, fI x2, fI x3, fI x4] = some w from e6)
    exact (fF_b (r := 3237) (by decide) rfl).mp e7
  have f1 : fB K n p 18 [fI x1, fI x3, fI x4, fI x5] σ := by
    obtain ⟨w, e6, e7⟩ := m4 (292, [1, 3, 4, 5]) (List.mem_of_getElem? (i := 1) rfl)
    obtain rfl : [fI x1, fI x3, fI x4, fI x5] = w := Option.some.inj (show some [fI x1, fI x3, fI x4, fI x5] = some w from e6)
    exact (fF_b (r := 292) (by decide) rfl).mp e7
  clear m1 m2 m3 m4
  obtain ⟨b9_0, g0, r9_0, e9_0, w0, y0_0, y0_1, y0_2, y0_3, e8_0, n0, r0, m0⟩ := (fH_o (by decide) (by decide)).mp f0
  cases e9_0
  cases e8_0
  obtain ⟨y1_0, y1_1, y1_2, y1_3, e9_1, h1, i1, t1_⟩ := f1
  cases e9_1
  obtain rfl := fMe_c w0 s0 t0 sc0
  have q0 : fB K n (p) 203 [fR x0, fI x1, fI x2, fI x8] σ := by
    refine (fH_o (by decide) (by decide)).mpr ⟨x0, g0, _, rfl, w0, x1, x2, x8, rfl, Or.inl ⟨by omega, Or.inr ⟨x3.toInt, by omega, by omega, x4.toInt, h1, i1, m0, ?_, ?_⟩⟩⟩
    · rw [← t1_, ← ec0]
      omega
    · rw [← t1_, ← ec0]
      unfold fHit
      omega
  exact ⟨p, fun _ => rfl, ⟨(fun q h => by cases h), fun q h => (by cases h), (fun f h => by cases h), (aAllc ⟨_, rfl, (fF_b (r := 3252) (by decide) rfl).mpr q0⟩ (fun f h => by cases h))⟩, [], List.mem_cons_self, fun f h => (by cases h)⟩
set_option maxRecDepth 8192 in
theorem rw_ruYR1a {K : Nat → Nat} {n : Nat} : aGho (fF K n) fa_T K n (fJX K n) ag_ruYR1a := by
  refine aGho_of ⟨rfl, rfl⟩ ?_
  intro p σ ρ hH hX hA hM
  have hG := aAG_of hA.1 (fun i e v he hv => (hA.2 i e v he hv).1)
  clear hA
  obtain ⟨v0, v1, v2, v3, v4, v5, v6, v7, v8, v9, v10, rfl, g0, g1, g2, g3, g4, g5, g6, g7, g8, g9, g10⟩ := fA_11 hG
  clear hG
  obtain ⟨x0, rfl, b0, d0⟩ := fG_ref (by decide) g0
  obtain ⟨x1, rfl, b1, d1⟩ := aG_int g1
  dsimp only at b1 d1
  obtain ⟨x2, rfl, b2, d2⟩ := aG_int g2
  dsimp only at b2 d2
  obtain ⟨x3, rfl, b3, d3⟩ := aG_int g3
  dsimp only at b3 d3
  obtain ⟨x4, rfl, b4, d4⟩ := aG_int g4
  dsimp only at b4 d4
  obtain ⟨x5, rfl, b5, d5⟩ := aG_int g5
  dsimp only at b5 d5
  obtain ⟨x6, rfl, b6, d6⟩ := aG_int g6
  dsimp only at b6 d6
  obtain ⟨x7, rfl, b7, d7⟩ := aG_int g7
  dsimp only at b7 d7
  obtain ⟨x8, rfl, b8, d8⟩ := aG_int g8
  dsimp only at b8 d8
  obtain ⟨x9, rfl, b9, d9⟩ := aG_int g9
  dsimp only at b9 d9
  obtain ⟨x10, rfl, b10, d10⟩ := fG_ref (by decide) g10
  obtain ⟨m1, m2, m3, m4⟩ := hM
  obtain ⟨a0, c0, fs0, w0, e1, s0, t0, e4⟩ := m1 (0, 0, 10) (List.mem_of_getElem? (i := 0) rfl)
  obtain rfl : x0 = a0 := Sum.inl.inj (Option.some.inj (Sum.inr.inj (Sum.inr.inj (Option.some.inj (show some (fR x0) = some _ from e1)))))
  obtain rfl : fR x10 = w0 := Option.some.inj (show some (fR x10) = some w0 from e4)
  clear e1 e4
  obtain ⟨a, mc0, ty0, gc0, ic0, e1, sc0, jc0, e4, e5⟩ := m2 (10, ([(5, 1)], 0), 6) (List.mem_of_getElem? (i := 0) rfl)
  obtain rfl : x10 = a := Sum.inl.inj (Option.some.inj (Sum.inr.inj (Sum.inr.inj (Option.some.inj (show some (fR x10) = some _ from e1)))))
  obtain ⟨gc0, rfl⟩ : ∃ g, gc0 = .inl g := by
    rcases gc0 with g | g
    · exact ⟨g, rfl⟩
    · exact absurd (show some (fI x6) = some (.inr (.inl (g ic0))) from e5) (fun h => by cases h)
  have sc0 : σ x10 = .inl (ty0, mc0, .inl gc0) := sc0
  have ec0 : x6 = gc0 ic0 := Sum.inl.inj (Option.some.inj (show some (fI x6) = some _ from e5))
  have kc0 : (ic0 : Int) = (1 * x5.toInt + 0) + 0 := by
    obtain ⟨z, e6, e7⟩ := e4
    obtain rfl : (1 * x5.toInt + 0) = z := Option.some.inj (show some (1 * x5.toInt + 0) = some z from e6)
    exact e7
  clear e1 e4 e5
  obtain rfl : ic0 = x5.toInt.toNat := by omega
  have l0 : 0 ≤ (1 * x6.toInt + (-8 * x2.toInt + (-1 * x7.toInt + 0))) + 0 := by
    obtain ⟨z, e6, e7⟩ := m3 ([(6, 1), (2, -8), (7, -1)], 0) (List.mem_of_getElem? (i := 0) rfl)
    obtain rfl : (1 * x6.toInt + (-8 * x2.toInt + (-1 * x7.toInt + 0))) = z := Option.some.inj (show some (1 * x6.toInt + (-8 * x2.toInt + (-1 * x7.toInt + 0))) = some z from e6)
    exact e7
  have l1 : 0 ≤ (-1 * x6.toInt + (8 * x2.toInt + (1 * x7.toInt + 0))) + 0 := by
    obtain ⟨z, e6, e7⟩ := m3 ([(6, -1), (2, 8), (7, 1)], 0) (List.mem_of_getElem? (i := 1) rfl)
    obtain rfl : (-1 * x6.toInt + (8 * x2.toInt + (1 * x7.toInt + 0))) = z := Option.some.inj (show some (-1 * x6.toInt + (8 * x2.toInt + (1 * x7.toInt + 0))) = some z from e6)
    exact e7
  have l2 : 0 ≤ (1 * x7.toInt + 0) + -1 := by
    obtain ⟨z, e6, e7⟩ := m3 ([(7, 1)], -1) (List.mem_of_getElem? (i := 2) rfl)
    obtain rfl : (1 * x7.toInt + 0) = z := Option.some.inj (show some (1 * x7.toInt + 0) = some z from e6)
    exact e7
  have l3 : 0 ≤ (-1 * x7.toInt + 0) + 1 := by
    obtain ⟨z, e6, e7⟩ := m3 ([(7, -1)], 1) (List.mem_of_getElem? (i := 3) rfl)
    obtain rfl : (-1 * x7.toInt + 0) = z := Option.some.inj (show some (-1 * x7.toInt + 0) = some z from e6)
    exact e7
  have f0 : fB K n p 202 [fR x0, fI x1, fI x2, fI x3, fI x4] σ := by
    obtain ⟨w, e6, e7⟩ := m4 (3237, [0, 1, 2, 3, 4]) (List.mem_of_getElem? (i := 0) rfl)
    obtain rfl : [fR x0, fI x1, fI x2, fI x3, fI x4] = w := Option.some.inj (show some [fR x0, fI x1, fI x2, fI x3, fI x4] = some w from e6)
    exact (fF_b (r := 3237) (by decide) rfl).mp e7
  have f1 : fB K n p 18 [fI x1, fI x3, fI x4, fI x5] σ := by
    obtain ⟨w, e6, e7⟩ := m4 (292, [1, 3, 4, 5]) (List.mem_of_getElem? (i := 1) rfl)
    obtain rfl : [fI x1, fI x3, fI x4, fI x5] = w := Option.some.inj (show some [fI x1, fI x3, fI x4, fI x5] = some w from e6)
    exact (fF_b (r := 292) (by decide) rfl).mp e7
  have f2 : fB K n p 22 [fI x3, fI x8] σ := by
    obtain ⟨w, e6, e7⟩ := m4 (354, [3, 8]) (List.mem_of_getElem? (i := 2) rfl)
    obtain rfl : [fI x3, fI x8] = w := Option.some.inj (show some [fI x3, fI x8] = some w from e6)
    exact (fF_b (r := 354) (by decide) rfl).mp e7
  clear m1 m2 m3 m4
  obtain ⟨b9_0, g0, r9_0, e9_0, w0, y0_0, y0_1, y0_2, y0_3, e8_0, n0, r0, m0⟩ := (fH_o (by decide) (by decide)).mp f0
  cases e9_0
  cases e8_0
  obtain ⟨y1_0, y1_1, y1_2, y1_3, e9_1, h1, i1, t1_⟩ := f1
  cases e9_1
  obtain ⟨y2_0, y2_1, e9_2, h2⟩ := f2
  cases e9_2
  obtain rfl := fMe_c w0 s0 t0 sc0
  have q0 : fB K n (p) 203 [fR x0, fI x1, fI x2, fI x9] σ := by
    refine (fH_o (by decide) (by decide)).mpr ⟨x0, g0, _, rfl, w0, x1, x2, x9, rfl, Or.inl ⟨by omega, Or.inr ⟨x3.toInt, by omega, by omega, x4.toInt, h1, i1, m0, ?_, ?_⟩⟩⟩
    · rw [← t1_, ← ec0]
      omega
    · rw [← t1_, ← ec0]
      unfold fHit
      omega
  exact ⟨p, fun _ => rfl, ⟨(fun q h => by cases h), fun q h => (by cases h), (fun f h => by cases h), (aAllc ⟨_, rfl, (fF_b (r := 3252) (by decide) rfl).mpr q0⟩ (fun f h => by cases h))⟩, [], List.mem_cons_self, fun f h => (by cases h)⟩
set_option maxRecDepth 8192 in
theorem rw_ruYR1b {K : Nat → Nat} {n : Nat} : aGho (fF K n) fa_T K n (fJX K n) ag_ruYR1b := by
  refine aGho_of ⟨rfl, rfl⟩ ?_
  intro p σ ρ hH hX hA hM
  have hG := aAG_of hA.1 (fun i e v he hv => (hA.2 i e v he hv).1)
  clear hA
  obtain ⟨v0, v1, v2, v3, v4, v5, v6, v7, v8, v9, v10, rfl, g0, g1, g2, g3, g4, g5, g6, g7, g8, g9, g10⟩ := fA_11 hG
  clear hG
  obtain ⟨x0, rfl, b0, d0⟩ := fG_ref (by decide) g0
  obtain ⟨x1, rfl, b1, d1⟩ := aG_int g1
  dsimp only at b1 d1
  obtain ⟨x2, rfl, b2, d2⟩ := aG_int g2
  dsimp only at b2 d2
  obtain ⟨x3, rfl, b3, d3⟩ := aG_int g3
  dsimp only at b3 d3
  obtain ⟨x4, rfl, b4, d4⟩ := aG_int g4
  dsimp only at b4 d4
  obtain ⟨x5, rfl, b5, d5⟩ := aG_int g5
  dsimp only at b5 d5
  obtain ⟨x6, rfl, b6, d6⟩ := aG_int g6
  dsimp only at b6 d6
  obtain ⟨x7, rfl, b7, d7⟩ := aG_int g7
  dsimp only at b7 d7
  obtain ⟨x8, rfl, b8, d8⟩ := aG_int g8
  dsimp only at b8 d8
  obtain ⟨x9, rfl, b9, d9⟩ := aG_int g9
  dsimp only at b9 d9
  obtain ⟨x10, rfl, b10, d10⟩ := fG_ref (by decide) g10
  obtain ⟨m1, m2, m3, m4⟩ := hM
  obtain ⟨a0, c0, fs0, w0, e1, s0, t0, e4⟩ := m1 (0, 0, 10) (List.mem_of_getElem? (i := 0) rfl)
  obtain rfl : x0 = a0 := Sum.inl.inj (Option.some.inj (Sum.inr.inj (Sum.inr.inj (Option.some.inj (show some (fR x0) = some _ from e1)))))
  obtain rfl : fR x10 = w0 := Option.some.inj (show some (fR x10) = some w0 from e4)
  clear e1 e4
  obtain ⟨a, mc0, ty0, gc0, ic0, e1, sc0, jc0, e4, e5⟩ := m2 (10, ([(5, 1)], 0), 6) (List.mem_of_getElem? (i := 0) rfl)
  obtain rfl : x10 = a := Sum.inl.inj (Option.some.inj (Sum.inr.inj (Sum.inr.inj (Option.some.inj (show some (fR x10) = some _ from e1)))))
  obtain ⟨gc0, rfl⟩ : ∃ g, gc0 = .inl g := by
    rcases gc0 with g | g
    · exact ⟨g, rfl⟩
    · exact absurd (show some (fI x6) = some (.inr (.inl (g ic0))) from e5) (fun h => by cases h)
  have sc0 : σ x10 = .inl (ty0, mc0, .inl gc0) := sc0
  have ec0 : x6 = gc0 ic0 := Sum.inl.inj (Option.some.inj (show some (fI x6) = some _ from e5))
  have kc0 : (ic0 : Int) = (1 * x5.toInt + 0) + 0 := by
    obtain ⟨z, e6, e7⟩ := e4
    obtain rfl : (1 * x5.toInt + 0) = z := Option.some.inj (show some (1 * x5.toInt + 0) = some z from e6)
    exact e7
  clear e1 e4 e5
  obtain rfl : ic0 = x5.toInt.toNat := by omega
  have l0 : 0 ≤ (1 * x6.toInt + (-8 * x2.toInt + (-1 * x7.toInt + 0))) + 0 := by
    obtain ⟨z, e6, e7⟩ := m3 ([(6, 1), (2, -8), (7, -1)], 0) (List.mem_of_getElem? (i := 0) rfl)
    obtain rfl : (1 * x6.toInt + (-8 * x2.toInt + (-1 * x7.toInt + 0))) = z := Option.some.inj (show some (1 * x6.toInt + (-8 * x2.toInt + (-1 * x7.toInt + 0))) = some z from e6)
    exact e7
  have l1 : 0 ≤ (-1 * x6.toInt + (8 * x2.toInt + (1 * x7.toInt + 0))) + 0 := by
    obtain ⟨z, e6, e7⟩ := m3 ([(6, -1), (2, 8), (7, 1)], 0) (List.mem_of_getElem? (i := 1) rfl)
    obtain rfl : (-1 * x6.toInt + (8 * x2.toInt + (1 * x7.toInt + 0))) = z := Option.some.inj (show some (-1 * x6.toInt + (8 * x2.toInt + (1 * x7.toInt + 0))) = some z from e6)
    exact e7
  have l2 : 0 ≤ (1 * x7.toInt + 0) + -1 := by
    obtain ⟨z, e6, e7⟩ := m3 ([(7, 1)], -1) (List.mem_of_getElem? (i := 2) rfl)
    obtain rfl : (1 * x7.toInt + 0) = z := Option.some.inj (show some (1 * x7.toInt + 0) = some z from e6)
    exact e7
  have l3 : 0 ≤ (-1 * x7.toInt + 0) + 1 := by
    obtain ⟨z, e6, e7⟩ := m3 ([(7, -1)], 1) (List.mem_of_getElem? (i := 3) rfl)
    obtain rfl : (-1 * x7.toInt + 0) = z := Option.some.inj (show some (-1 * x7.toInt + 0) = some z from e6)
    exact e7
  have f0 : fB K n p 202 [fR x0, fI x1, fI x2, fI x3, fI x4] σ := by
    obtain ⟨w, e6, e7⟩ := m4 (3237, [0, 1, 2, 3, 4]) (List.mem_of_getElem? (i := 0) rfl)
    obtain rfl : [fR x0, fI x1, fI x2, fI x3, fI x4] = w := Option.some.inj (show some [fR x0, fI x1, fI x2, fI x3, fI x4] = some w from e6)
    exact (fF_b (r := 3237) (by decide) rfl).mp e7
  have f1 : fB K n p 18 [fI x1, fI x3, fI x4, fI x5] σ := by
    obtain ⟨w, e6, e7⟩ := m4 (292, [1, 3, 4, 5]) (List.mem_of_getElem? (i := 1) rfl)
    obtain rfl : [fI x1, fI x3, fI x4, fI x5] = w := Option.some.inj (show some [fI x1, fI x3, fI x4, fI x5] = some w from e6)
    exact (fF_b (r := 292) (by decide) rfl).mp e7
  have f2 : fB K n p 22 [fI x3, fI x8] σ := by
    obtain ⟨w, e6, e7⟩ := m4 (354, [3, 8]) (List.mem_of_getElem? (i := 2) rfl)
    obtain rfl : [fI x3, fI x8] = w := Option.some.inj (show some [fI x3, fI x8] = some w from e6)
    exact (fF_b (r := 354) (by decide) rfl).mp e7
  clear m1 m2 m3 m4
  obtain ⟨b9_0, g0, r9_0, e9_0, w0, y0_0, y0_1, y0_2, y0_3, e8_0, n0, r0, m0⟩ := (fH_o (by decide) (by decide)).mp f0
  cases e9_0
  cases e8_0
  obtain ⟨y1_0, y1_1, y1_2, y1_3, e9_1, h1, i1, t1_⟩ := f1
  cases e9_1
  obtain ⟨y2_0, y2_1, e9_2, h2⟩ := f2
  cases e9_2
  obtain rfl := fMe_c w0 s0 t0 sc0
  have q0 : fB K n (p) 203 [fR x0, fI x1, fI x2, fI x9] σ := by
    refine (fH_o (by decide) (by decide)).mpr ⟨x0, g0, _, rfl, w0, x1, x2, x9, rfl, Or.inl ⟨by omega, Or.inr ⟨x3.toInt, by omega, by omega, x4.toInt, h1, i1, m0, ?_, ?_⟩⟩⟩
    · rw [← t1_, ← ec0]
      omega
    · rw [← t1_, ← ec0]
      unfold fHit
      omega
  exact ⟨p, fun _ => rfl, ⟨(fun q h => by cases h), fun q h => (by cases h), (fun f h => by cases h), (aAllc ⟨_, rfl, (fF_b (r := 3252) (by decide) rfl).mpr q0⟩ (fun f h => by cases h))⟩, [], List.mem_cons_self, fun f h => (by cases h)⟩
set_option maxRecDepth 8192 in
theorem rw_ruNR0 {K : Nat → Nat} {n : Nat} : aGho (fF K n) fa_T K n (fJX K n) ag_ruNR0 := by
  refine aGho_of ⟨rfl, rfl⟩ ?_
  intro p σ ρ hH hX hA hM
  have hG := aAG_of hA.1 (fun i e v he hv => (hA.2 i e v he hv).1)
  clear hA
  obtain ⟨v0, v1, v2, v3, v4, v5, v6, v7, v8, rfl, g0, g1, g2, g3, g4, g5, g6, g7, g8⟩ := fA_9 hG
  clear hG
  obtain ⟨x0, rfl, b0, d0⟩ := fG_ref (by decide) g0
  obtain ⟨x1, rfl, b1, d1⟩ := aG_int g1
  dsimp only at b1 d1
  obtain ⟨x2, rfl, b2, d2⟩ := aG_int g2
  dsimp only at b2 d2
  obtain ⟨x3, rfl, b3, d3⟩ := aG_int g3
  dsimp only at b3 d3
  obtain ⟨x4, rfl, b4, d4⟩ := aG_int g4
  dsimp only at b4 d4
  obtain ⟨x5, rfl, b5, d5⟩ := aG_int g5
  dsimp only at b5 d5
  obtain ⟨x6, rfl, b6, d6⟩ := aG_int g6
  dsimp only at b6 d6
  obtain ⟨x7, rfl, b7, d7⟩ := aG_int g7
  dsimp only at b7 d7
  obtain ⟨x8, rfl, b8, d8⟩ := fG_ref (by decide) g8
  obtain ⟨m1, m2, m3, m4⟩ := hM
  obtain ⟨a0, c0, fs0, w0, e1, s0, t0, e4⟩ := m1 (0, 0, 8) (List.mem_of_getElem? (i := 0) rfl)
  obtain rfl : x0 = a0 := Sum.inl.inj (Option.some.inj (Sum.inr.inj (Sum.inr.inj (Option.some.inj (show some (fR x0) = some _ from e1)))))
  obtain rfl : fR x8 = w0 := Option.some.inj (show some (fR x8) = some w0 from e4)
  clear e1 e4
  obtain ⟨a, mc0, ty0, gc0, ic0, e1, sc0, jc0, e4, e5⟩ := m2 (8, ([(5, 1)], 0), 6) (List.mem_of_getElem? (i := 0) rfl)
  obtain rfl : x8 = a := Sum.inl.inj (Option.some.inj (Sum.inr.inj (Sum.inr.inj (Option.some.inj (show some (fR x8) = some _ from e1)))))
  obtain ⟨gc0, rfl⟩ : ∃ g, gc0 = .inl g := by
    rcases gc0 with g | g
    · exact ⟨g, rfl⟩
    · exact absurd (show some (fI x6) = some (.inr (.inl (g ic0))) from e5) (fun h => by cases h)
  have sc0 : σ x8 = .inl (ty0, mc0, .inl gc0) := sc0
  have ec0 : x6 = gc0 ic0 := Sum.inl.inj (Option.some.inj (show some (fI x6) = some _ from e5))
  have kc0 : (ic0 : Int) = (1 * x5.toInt + 0) + 0 := by
    obtain ⟨z, e6, e7⟩ := e4
    obtain rfl : (1 * x5.toInt + 0) = z := Option.some.inj (show some (1 * x5.toInt + 0) = some z from e6)
    exact e7
  clear e1 e4 e5
  obtain rfl : ic0 = x5.toInt.toNat := by omega
  have l0 : 0 ≤ (1 * x6.toInt + (-8 * x2.toInt + (-1 * x7.toInt + 0))) + 0 := by
    obtain ⟨z, e6, e7⟩ := m3 ([(6, 1), (2, -8), (7, -1)], 0) (List.mem_of_getElem? (i := 0) rfl)
    obtain rfl : (1 * x6.toInt + (-8 * x2.toInt + (-1 * x7.toInt + 0))) = z := Option.some.inj (show some (1 * x6.toInt + (-8 * x2.toInt + (-1 * x7.toInt + 0))) = some z from e6)
    exact e7
  have l1 : 0 ≤ (-1 * x6.toInt + (8 * x2.toInt + (1 * x7.toInt + 0))) + 0 := by
    obtain ⟨z, e6, e7⟩ := m3 ([(6, -1), (2, 8), (7, 1)], 0) (List.mem_of_getElem? (i := 1) rfl)
    obtain rfl : (-1 * x6.toInt + (8 * x2.toInt + (1 * x7.toInt + 0))) = z := Option.some.inj (show some (-1 * x6.toInt + (8 * x2.toInt + (1 * x7.toInt + 0))) = some z from e6)
    exact e7
  have l2 : 0 ≤ (1 * x7.toInt + 0) + 0 := by
    obtain ⟨z, e6, e7⟩ := m3 ([(7, 1)], 0) (List.mem_of_getElem? (i := 2) rfl)
    obtain rfl : (1 * x7.toInt + 0) = z := Option.some.inj (show some (1 * x7.toInt + 0) = some z from e6)
    exact e7
  have l3 : 0 ≤ (-1 * x7.toInt + 0) + 0 := by
    obtain ⟨z, e6, e7⟩ := m3 ([(7, -1)], 0) (List.mem_of_getElem? (i := 3) rfl)
    obtain rfl : (-1 * x7.toInt + 0) = z := Option.some.inj (show some (-1 * x7.toInt + 0) = some z from e6)
    exact e7
  have f0 : fB K n p 202 [fR x0, fI x1, fI x2, fI x3, fI x4] σ := by
    obtain ⟨w, e6, e7⟩ := m4 (3237, [0, 1, 2, 3, 4]) (List.mem_of_getElem? (i := 0) rfl)
    obtain rfl : [fR x0, fI x1, fI x2, fI x3, fI x4] = w := Option.some.inj (show some [fR x0, fI x1, fI x2, fI x3, fI x4] = some w from e6)
    exact (fF_b (r := 3237) (by decide) rfl).mp e7
  have f1 : fB K n p 18 [fI x1, fI x3, fI x4, fI x5] σ := by
    obtain ⟨w, e6, e7⟩ := m4 (292, [1, 3, 4, 5]) (List.mem_of_getElem? (i := 1) rfl)
    obtain rfl : [fI x1, fI x3, fI x4, fI x5] = w := Option.some.inj (show some [fI x1, fI x3, fI x4, fI x5] = some w from e6)
    exact (fF_b (r := 292) (by decide) rfl).mp e7
  clear m1 m2 m3 m4
  obtain ⟨b9_0, g0, r9_0, e9_0, w0, y0_0, y0_1, y0_2, y0_3, e8_0, n0, r0, m0⟩ := (fH_o (by decide) (by decide)).mp f0
  cases e9_0
  cases e8_0
  obtain ⟨y1_0, y1_1, y1_2, y1_3, e9_1, h1, i1, t1_⟩ := f1
  cases e9_1
  obtain rfl := fMe_c w0 s0 t0 sc0
  have q0 : fB K n (p) 207 [fR x0, fI x1, fI x2, fI x3] σ := by
    refine (fH_o (by decide) (by decide)).mpr ⟨x0, g0, _, rfl, w0, x1, x2, x3, rfl, n0, fun j j1 j2 => ?_⟩
    by_cases hj : j < x3.toInt
    · exact r0 j j1 hj
    · obtain rfl : j = x3.toInt := by omega
      rintro ⟨q, q1, q2, q3, q4, q5⟩
      rcases Int.lt_trichotomy q x4.toInt with hq | hq | hq
      · exact q4 (m0 q q1 hq)
      · rw [hq, ← t1_, ← ec0] at q5
        unfold fHit at q5
        omega
      · have h9 := q3 x4.toInt h1 hq
        rw [← t1_, ← ec0] at h9
        omega
  exact ⟨p, fun _ => rfl, ⟨(fun q h => by cases h), fun q h => (by cases h), (fun f h => by cases h), (aAllc ⟨_, rfl, (fF_b (r := 3316) (by decide) rfl).mpr q0⟩ (fun f h => by cases h))⟩, [], List.mem_cons_self, fun f h => (by cases h)⟩
set_option maxRecDepth 8192 in
theorem rw_ruNR2 {K : Nat → Nat} {n : Nat} : aGho (fF K n) fa_T K n (fJX K n) ag_ruNR2 := by
  refine aGho_of ⟨rfl, rfl⟩ ?_
  intro p σ ρ hH hX hA hM
  have hG := aAG_of hA.1 (fun i e v he hv => (hA.2 i e v he hv).1)
  clear hA
  obtain ⟨v0, v1, v2, v3, v4, v5, v6, v7, v8, rfl, g0, g1, g2, g3, g4, g5, g6, g7, g8⟩ := fA_9 hG
  clear hG
  obtain ⟨x0, rfl, b0, d0⟩ := fG_ref (by decide) g0
  obtain ⟨x1, rfl, b1, d1⟩ := aG_int g1
  dsimp only at b1 d1
  obtain ⟨x2, rfl, b2, d2⟩ := aG_int g2
  dsimp only at b2 d2
  obtain ⟨x3, rfl, b3, d3⟩ := aG_int g3
  dsimp only at b3 d3
  obtain ⟨x4, rfl, b4, d4⟩ := aG_int g4
  dsimp only at b4 d4
  obtain ⟨x5, rfl, b5, d5⟩ := aG_int g5
  dsimp only at b5 d5
  obtain ⟨x6, rfl, b6, d6⟩ := aG_int g6
  dsimp only at b6 d6
  obtain ⟨x7, rfl, b7, d7⟩ := aG_int g7
  dsimp only at b7 d7
  obtain ⟨x8, rfl, b8, d8⟩ := fG_ref (by decide) g8
  obtain ⟨m1, m2, m3, m4⟩ := hM
  obtain ⟨a0, c0, fs0, w0, e1, s0, t0, e4⟩ := m1 (0, 0, 8) (List.mem_of_getElem? (i := 0) rfl)
  obtain rfl : x0 = a0 := Sum.inl.inj (Option.some.inj (Sum.inr.inj (Sum.inr.inj (Option.some.inj (show some (fR x0) = some _ from e1)))))
  obtain rfl : fR x8 = w0 := Option.some.inj (show some (fR x8) = some w0 from e4)
  clear e1 e4
  obtain ⟨a, mc0, ty0, gc0, ic0, e1, sc0, jc0, e4, e5⟩ := m2 (8, ([(5, 1)], 0), 6) (List.mem_of_getElem? (i := 0) rfl)
  obtain rfl : x8 = a := Sum.inl.inj (Option.some.inj (Sum.inr.inj (Sum.inr.inj (Option.some.inj (show some (fR x8) = some _ from e1)))))
  obtain ⟨gc0, rfl⟩ : ∃ g, gc0 = .inl g := by
    rcases gc0 with g | g
    · exact ⟨g, rfl⟩
    · exact absurd (show some (fI x6) = some (.inr (.inl (g ic0))) from e5) (fun h => by cases h)
  have sc0 : σ x8 = .inl (ty0, mc0, .inl gc0) := sc0
  have ec0 : x6 = gc0 ic0 := Sum.inl.inj (Option.some.inj (show some (fI x6) = some _ from e5))
  have kc0 : (ic0 : Int) = (1 * x5.toInt + 0) + 0 := by
    obtain ⟨z, e6, e7⟩ := e4
    obtain rfl : (1 * x5.toInt + 0) = z := Option.some.inj (show some (1 * x5.toInt + 0) = some z from e6)
    exact e7
  clear e1 e4 e5
  obtain rfl : ic0 = x5.toInt.toNat := by omega
  have l0 : 0 ≤ (1 * x6.toInt + (-8 * x2.toInt + (-1 * x7.toInt + 0))) + 0 := by
    obtain ⟨z, e6, e7⟩ := m3 ([(6, 1), (2, -8), (7, -1)], 0) (List.mem_of_getElem? (i := 0) rfl)
    obtain rfl : (1 * x6.toInt + (-8 * x2.toInt + (-1 * x7.toInt + 0))) = z := Option.some.inj (show some (1 * x6.toInt + (-8 * x2.toInt + (-1 * x7.toInt + 0))) = some z from e6)
    exact e7
  have l1 : 0 ≤ (-1 * x6.toInt + (8 * x2.toInt + (1 * x7.toInt + 0))) + 0 := by
    obtain ⟨z, e6, e7⟩ := m3 ([(6, -1), (2, 8), (7, 1)], 0) (List.mem_of_getElem? (i := 1) rfl)
    obtain rfl : (-1 * x6.toInt + (8 * x2.toInt + (1 * x7.toInt + 0))) = z := Option.some.inj (show some (-1 * x6.toInt + (8 * x2.toInt + (1 * x7.toInt + 0))) = some z from e6)
    exact e7
  have l2 : 0 ≤ (1 * x7.toInt + 0) + -2 := by
    obtain ⟨z, e6, e7⟩ := m3 ([(7, 1)], -2) (List.mem_of_getElem? (i := 2) rfl)
    obtain rfl : (1 * x7.toInt + 0) = z := Option.some.inj (show some (1 * x7.toInt + 0) = some z from e6)
    exact e7
  have l3 : 0 ≤ (-1 * x7.toInt + 0) + 2 := by
    obtain ⟨z, e6, e7⟩ := m3 ([(7, -1)], 2) (List.mem_of_getElem? (i := 3) rfl)
    obtain rfl : (-1 * x7.toInt + 0) = z := Option.some.inj (show some (-1 * x7.toInt + 0) = some z from e6)
    exact e7
  have f0 : fB K n p 202 [fR x0, fI x1, fI x2, fI x3, fI x4] σ := by
    obtain ⟨w, e6, e7⟩ := m4 (3237, [0, 1, 2, 3, 4]) (List.mem_of_getElem? (i := 0) rfl)
    obtain rfl : [fR x0, fI x1, fI x2, fI x3, fI x4] = w := Option.some.inj (show some [fR x0, fI x1, fI x2, fI x3, fI x4] = some w from e6)
    exact (fF_b (r := 3237) (by decide) rfl).mp e7
  have f1 : fB K n p 18 [fI x1, fI x3, fI x4, fI x5] σ := by
    obtain ⟨w, e6, e7⟩ := m4 (292, [1, 3, 4, 5]) (List.mem_of_getElem? (i := 1) rfl)
    obtain rfl : [fI x1, fI x3, fI x4, fI x5] = w := Option.some.inj (show some [fI x1, fI x3, fI x4, fI x5] = some w from e6)
    exact (fF_b (r := 292) (by decide) rfl).mp e7
  clear m1 m2 m3 m4
  obtain ⟨b9_0, g0, r9_0, e9_0, w0, y0_0, y0_1, y0_2, y0_3, e8_0, n0, r0, m0⟩ := (fH_o (by decide) (by decide)).mp f0
  cases e9_0
  cases e8_0
  obtain ⟨y1_0, y1_1, y1_2, y1_3, e9_1, h1, i1, t1_⟩ := f1
  cases e9_1
  obtain rfl := fMe_c w0 s0 t0 sc0
  have q0 : fB K n (p) 207 [fR x0, fI x1, fI x2, fI x3] σ := by
    refine (fH_o (by decide) (by decide)).mpr ⟨x0, g0, _, rfl, w0, x1, x2, x3, rfl, n0, fun j j1 j2 => ?_⟩
    by_cases hj : j < x3.toInt
    · exact r0 j j1 hj
    · obtain rfl : j = x3.toInt := by omega
      rintro ⟨q, q1, q2, q3, q4, q5⟩
      rcases Int.lt_trichotomy q x4.toInt with hq | hq | hq
      · exact q4 (m0 q q1 hq)
      · rw [hq, ← t1_, ← ec0] at q5
        unfold fHit at q5
        omega
      · have h9 := q3 x4.toInt h1 hq
        rw [← t1_, ← ec0] at h9
        omega
  exact ⟨p, fun _ => rfl, ⟨(fun q h => by cases h), fun q h => (by cases h), (fun f h => by cases h), (aAllc ⟨_, rfl, (fF_b (r := 3316) (by decide) rfl).mpr q0⟩ (fun f h => by cases h))⟩, [], List.mem_cons_self, fun f h => (by cases h)⟩
set_option maxRecDepth 8192 in
theorem rw_ruNR7 {K : Nat → Nat} {n : Nat} : aGho (fF K n) fa_T K n (fJX K n) ag_ruNR7 := by
  refine aGho_of ⟨rfl, rfl⟩ ?_
  intro p σ ρ hH hX hA hM
  have hG := aAG_of hA.1 (fun i e v he hv => (hA.2 i e v he hv).1)
  clear hA
  obtain ⟨v0, v1, v2, v3, v4, v5, v6, v7, v8, rfl, g0, g1, g2, g3, g4, g5, g6, g7, g8⟩ := fA_9 hG
  clear hG
  obtain ⟨x0, rfl, b0, d0⟩ := fG_ref (by decide) g0
  obtain ⟨x1, rfl, b1, d1⟩ := aG_int g1
  dsimp only at b1 d1
  obtain ⟨x2, rfl, b2, d2⟩ := aG_int g2
  dsimp only at b2 d2
  obtain ⟨x3, rfl, b3, d3⟩ := aG_int g3
  dsimp only at b3 d3
  obtain ⟨x4, rfl, b4, d4⟩ := aG_int g4
  dsimp only at b4 d4
  obtain ⟨x5, rfl, b5, d5⟩ := aG_int g5
  dsimp only at b5 d5
  obtain ⟨x6, rfl, b6, d6⟩ := aG_int g6
  dsimp only at b6 d6
  obtain ⟨x7, rfl, b7, d7⟩ := aG_int g7
  dsimp only at b7 d7
  obtain ⟨x8, rfl, b8, d8⟩ := fG_ref (by decide) g8
  obtain ⟨m1, m2, m3, m4⟩ := hM
  obtain ⟨a0, c0, fs0, w0, e1, s0, t0, e4⟩ := m1 (0, 0, 8) (List.mem_of_getElem? (i := 0) rfl)
  obtain rfl : x0 = a0 := Sum.inl.inj (Option.some.inj (Sum.inr.inj (Sum.inr.inj (Option.some.inj (show some (fR x0) = some _ from e1)))))
  obtain rfl : fR x8 = w0 := Option.some.inj (show some (fR x8) = some w0 from e4)
  clear e1 e4
  obtain ⟨a, mc0, ty0, gc0, ic0, e1, sc0, jc0, e4, e5⟩ := m2 (8, ([(5, 1)], 0), 6) (List.mem_of_getElem? (i := 0) rfl)
  obtain rfl : x8 = a := Sum.inl.inj (Option.some.inj (Sum.inr.inj (Sum.inr.inj (Option.some.inj (show some (fR x8) = some _ from e1)))))
  obtain ⟨gc0, rfl⟩ : ∃ g, gc0 = .inl g := by
    rcases gc0 with g | g
    · exact ⟨g, rfl⟩
    · exact absurd (show some (fI x6) = some (.inr (.inl (g ic0))) from e5) (fun h => by cases h)
  have sc0 : σ x8 = .inl (ty0, mc0, .inl gc0) := sc0
  have ec0 : x6 = gc0 ic0 := Sum.inl.inj (Option.some.inj (show some (fI x6) = some _ from e5))
  have kc0 : (ic0 : Int) = (1 * x5.toInt + 0) + 0 := by
    obtain ⟨z, e6, e7⟩ := e4
    obtain rfl : (1 * x5.toInt + 0) = z := Option.some.inj (show some (1 * x5.toInt + 0) = some z from e6)
    exact e7
  clear e1 e4 e5
  obtain rfl : ic0 = x5.toInt.toNat := by omega
  have l0 : 0 ≤ (1 * x6.toInt + (-8 * x2.toInt + (-1 * x7.toInt + 0))) + 0 := by
    obtain ⟨z, e6, e7⟩ := m3 ([(6, 1), (2, -8), (7, -1)], 0) (List.mem_of_getElem? (i := 0) rfl)
    obtain rfl : (1 * x6.toInt + (-8 * x2.toInt + (-1 * x7.toInt + 0))) = z := Option.some.inj (show some (1 * x6.toInt + (-8 * x2.toInt + (-1 * x7.toInt + 0))) = some z from e6)
    exact e7
  have l1 : 0 ≤ (-1 * x6.toInt + (8 * x2.toInt + (1 * x7.toInt + 0))) + 0 := by
    obtain ⟨z, e6, e7⟩ := m3 ([(6, -1), (2, 8), (7, 1)], 0) (List.mem_of_getElem? (i := 1) rfl)
    obtain rfl : (-1 * x6.toInt + (8 * x2.toInt + (1 * x7.toInt + 0))) = z := Option.some.inj (show some (-1 * x6.toInt + (8 * x2.toInt + (1 * x7.toInt + 0))) = some z from e6)
    exact e7
  have l2 : 0 ≤ (1 * x7.toInt + 0) + -7 := by
    obtain ⟨z, e6, e7⟩ := m3 ([(7, 1)], -7) (List.mem_of_getElem? (i := 2) rfl)
    obtain rfl : (1 * x7.toInt + 0) = z := Option.some.inj (show some (1 * x7.toInt + 0) = some z from e6)
    exact e7
  have l3 : 0 ≤ (-1 * x7.toInt + 0) + 7 := by
    obtain ⟨z, e6, e7⟩ := m3 ([(7, -1)], 7) (List.mem_of_getElem? (i := 3) rfl)
    obtain rfl : (-1 * x7.toInt + 0) = z := Option.some.inj (show some (-1 * x7.toInt + 0) = some z from e6)
    exact e7
  have f0 : fB K n p 202 [fR x0, fI x1, fI x2, fI x3, fI x4] σ := by
    obtain ⟨w, e6, e7⟩ := m4 (3237, [0, 1, 2, 3, 4]) (List.mem_of_getElem? (i := 0) rfl)
    obtain rfl : [fR x0, fI x1, fI x2, fI x3, fI x4] = w := Option.some.inj (show some [fR x0, fI x1, fI x2, fI x3, fI x4] = some w from e6)
    exact (fF_b (r := 3237) (by decide) rfl).mp e7
  have f1 : fB K n p 18 [fI x1, fI x3, fI x4, fI x5] σ := by
    obtain ⟨w, e6, e7⟩ := m4 (292, [1, 3, 4, 5]) (List.mem_of_getElem? (i := 1) rfl)
    obtain rfl : [fI x1, fI x3, fI x4, fI x5] = w := Option.some.inj (show some [fI x1, fI x3, fI x4, fI x5] = some w from e6)
    exact (fF_b (r := 292) (by decide) rfl).mp e7
  clear m1 m2 m3 m4
  obtain ⟨b9_0, g0, r9_0, e9_0, w0, y0_0, y0_1, y0_2, y0_3, e8_0, n0, r0, m0⟩ := (fH_o (by decide) (by decide)).mp f0
  cases e9_0
  cases e8_0
  obtain ⟨y1_0, y1_1, y1_2, y1_3, e9_1, h1, i1, t1_⟩ := f1
  cases e9_1
  obtain rfl := fMe_c w0 s0 t0 sc0
  have q0 : fB K n (p) 207 [fR x0, fI x1, fI x2, fI x3] σ := by
    refine (fH_o (by decide) (by decide)).mpr ⟨x0, g0, _, rfl, w0, x1, x2, x3, rfl, n0, fun j j1 j2 => ?_⟩
    by_cases hj : j < x3.toInt
    · exact r0 j j1 hj
    · obtain rfl : j = x3.toInt := by omega
      rintro ⟨q, q1, q2, q3, q4, q5⟩
      rcases Int.lt_trichotomy q x4.toInt with hq | hq | hq
      · exact q4 (m0 q q1 hq)
      · rw [hq, ← t1_, ← ec0] at q5
        unfold fHit at q5
        omega
      · have h9 := q3 x4.toInt h1 hq
        rw [← t1_, ← ec0] at h9
        omega
  exact ⟨p, fun _ => rfl, ⟨(fun q h => by cases h), fun q h => (by cases h), (fun f h => by cases h), (aAllc ⟨_, rfl, (fF_b (r := 3316) (by decide) rfl).mpr q0⟩ (fun f h => by cases h))⟩, [], List.mem_cons_self, fun f h => (by cases h)⟩
set_option maxRecDepth 8192 in
theorem rw_ruNR3 {K : Nat → Nat} {n : Nat} : aGho (fF K n) fa_T K n (fJX K n) ag_ruNR3 := by
  refine aGho_of ⟨rfl, rfl⟩ ?_
  intro p σ ρ hH hX hA hM
  have hG := aAG_of hA.1 (fun i e v he hv => (hA.2 i e v he hv).1)
  clear hA
  obtain ⟨v0, v1, v2, v3, v4, v5, v6, v7, v8, rfl, g0, g1, g2, g3, g4, g5, g6, g7, g8⟩ := fA_9 hG
  clear hG
  obtain ⟨x0, rfl, b0, d0⟩ := fG_ref (by decide) g0
  obtain ⟨x1, rfl, b1, d1⟩ := aG_int g1
  dsimp only at b1 d1
  obtain ⟨x2, rfl, b2, d2⟩ := aG_int g2
  dsimp only at b2 d2
  obtain ⟨x3, rfl, b3, d3⟩ := aG_int g3
  dsimp only at b3 d3
  obtain ⟨x4, rfl, b4, d4⟩ := aG_int g4
  dsimp only at b4 d4
  obtain ⟨x5, rfl, b5, d5⟩ := aG_int g5
  dsimp only at b5 d5
  obtain ⟨x6, rfl, b6, d6⟩ := aG_int g6
  dsimp only at b6 d6
  obtain ⟨x7, rfl, b7, d7⟩ := aG_int g7
  dsimp only at b7 d7
  obtain ⟨x8, rfl, b8, d8⟩ := fG_ref (by decide) g8
  obtain ⟨m1, m2, m3, m4⟩ := hM
  obtain ⟨a0, c0, fs0, w0, e1, s0, t0, e4⟩ := m1 (0, 0, 8) (List.mem_of_getElem? (i := 0) rfl)
  obtain rfl : x0 = a0 := Sum.inl.inj (Option.some.inj (Sum.inr.inj (Sum.inr.inj (Option.some.inj (show some (fR x0) = some _ from e1)))))
  obtain rfl : fR x8 = w0 := Option.some.inj (show some (fR x8) = some w0 from e4)
  clear e1 e4
  obtain ⟨a, mc0, ty0, gc0, ic0, e1, sc0, jc0, e4, e5⟩ := m2 (8, ([(5, 1)], 0), 6) (List.mem_of_getElem? (i := 0) rfl)
  obtain rfl : x8 = a := Sum.inl.inj (Option.some.inj (Sum.inr.inj (Sum.inr.inj (Option.some.inj (show some (fR x8) = some _ from e1)))))
  obtain ⟨gc0, rfl⟩ : ∃ g, gc0 = .inl g := by
    rcases gc0 with g | g
    · exact ⟨g, rfl⟩
    · exact absurd (show some (fI x6) = some (.inr (.inl (g ic0))) from e5) (fun h => by cases h)
  have sc0 : σ x8 = .inl (ty0, mc0, .inl gc0) := sc0
  have ec0 : x6 = gc0 ic0 := Sum.inl.inj (Option.some.inj (show some (fI x6) = some _ from e5))
  have kc0 : (ic0 : Int) = (1 * x5.toInt + 0) + 0 := by
    obtain ⟨z, e6, e7⟩ := e4
    obtain rfl : (1 * x5.toInt + 0) = z := Option.some.inj (show some (1 * x5.toInt + 0) = some z from e6)
    exact e7
  clear e1 e4 e5
  obtain rfl : ic0 = x5.toInt.toNat := by omega
  have l0 : 0 ≤ (1 * x6.toInt + (-8 * x2.toInt + (-1 * x7.toInt + 0))) + 0 := by
    obtain ⟨z, e6, e7⟩ := m3 ([(6, 1), (2, -8), (7, -1)], 0) (List.mem_of_getElem? (i := 0) rfl)
    obtain rfl : (1 * x6.toInt + (-8 * x2.toInt + (-1 * x7.toInt + 0))) = z := Option.some.inj (show some (1 * x6.toInt + (-8 * x2.toInt + (-1 * x7.toInt + 0))) = some z from e6)
    exact e7
  have l1 : 0 ≤ (-1 * x6.toInt + (8 * x2.toInt + (1 * x7.toInt + 0))) + 0 := by
    obtain ⟨z, e6, e7⟩ := m3 ([(6, -1), (2, 8), (7, 1)], 0) (List.mem_of_getElem? (i := 1) rfl)
    obtain rfl : (-1 * x6.toInt + (8 * x2.toInt + (1 * x7.toInt + 0))) = z := Option.some.inj (show some (-1 * x6.toInt + (8 * x2.toInt + (1 * x7.toInt + 0))) = some z from e6)
    exact e7
  have l2 : 0 ≤ (1 * x7.toInt + 0) + -3 := by
    obtain ⟨z, e6, e7⟩ := m3 ([(7, 1)], -3) (List.mem_of_getElem? (i := 2) rfl)
    obtain rfl : (1 * x7.toInt + 0) = z := Option.some.inj (show some (1 * x7.toInt + 0) = some z from e6)
    exact e7
  have l3 : 0 ≤ (-1 * x7.toInt + 0) + 3 := by
    obtain ⟨z, e6, e7⟩ := m3 ([(7, -1)], 3) (List.mem_of_getElem? (i := 3) rfl)
    obtain rfl : (-1 * x7.toInt + 0) = z := Option.some.inj (show some (-1 * x7.toInt + 0) = some z from e6)
    exact e7
  have f0 : fB K n p 202 [fR x0, fI x1, fI x2, fI x3, fI x4] σ := by
    obtain ⟨w, e6, e7⟩ := m4 (3237, [0, 1, 2, 3, 4]) (List.mem_of_getElem? (i := 0) rfl)
    obtain rfl : [fR x0, fI x1, fI x2, fI x3, fI x4] = w := Option.some.inj (show some [fR x0, fI x1, fI x2, fI x3, fI x4] = some w from e6)
    exact (fF_b (r := 3237) (by decide) rfl).mp e7
  have f1 : fB K n p 18 [fI x1, fI x3, fI x4, fI x5] σ := by
    obtain ⟨w, e6, e7⟩ := m4 (292, [1, 3, 4, 5]) (List.mem_of_getElem? (i := 1) rfl)
    obtain rfl : [fI x1, fI x3, fI x4, fI x5] = w := Option.some.inj (show some [fI x1, fI x3, fI x4, fI x5] = some w from e6)
    exact (fF_b (r := 292) (by decide) rfl).mp e7
  clear m1 m2 m3 m4
  obtain ⟨b9_0, g0, r9_0, e9_0, w0, y0_0, y0_1, y0_2, y0_3, e8_0, n0, r0, m0⟩ := (fH_o (by decide) (by decide)).mp f0
  cases e9_0
  cases e8_0
  obtain ⟨y1_0, y1_1, y1_2, y1_3, e9_1, h1, i1, t1_⟩ := f1
  cases e9_1
  obtain rfl := fMe_c w0 s0 t0 sc0
  have q0 : fB K n (p) 207 [fR x0, fI x1, fI x2, fI x3] σ := by
    refine (fH_o (by decide) (by decide)).mpr ⟨x0, g0, _, rfl, w0, x1, x2, x3, rfl, n0, fun j j1 j2 => ?_⟩
    by_cases hj : j < x3.toInt
    · exact r0 j j1 hj
    · obtain rfl : j = x3.toInt := by omega
      rintro ⟨q, q1, q2, q3, q4, q5⟩
      rcases Int.lt_trichotomy q x4.toInt with hq | hq | hq
      · exact q4 (m0 q q1 hq)
      · rw [hq, ← t1_, ← ec0] at q5
        unfold fHit at q5
        omega
      · have h9 := q3 x4.toInt h1 hq
        rw [← t1_, ← ec0] at h9
        omega
  exact ⟨p, fun _ => rfl, ⟨(fun q h => by cases h), fun q h => (by cases h), (fun f h => by cases h), (aAllc ⟨_, rfl, (fF_b (r := 3316) (by decide) rfl).mpr q0⟩ (fun f h => by cases h))⟩, [], List.mem_cons_self, fun f h => (by cases h)⟩
set_option maxRecDepth 8192 in
theorem rw_ruNR4 {K : Nat → Nat} {n : Nat} : aGho (fF K n) fa_T K n (fJX K n) ag_ruNR4 := by
  refine aGho_of ⟨rfl, rfl⟩ ?_
  intro p σ ρ hH hX hA hM
  have hG := aAG_of hA.1 (fun i e v he hv => (hA.2 i e v he hv).1)
  clear hA
  obtain ⟨v0, v1, v2, v3, v4, v5, v6, v7, v8, rfl, g0, g1, g2, g3, g4, g5, g6, g7, g8⟩ := fA_9 hG
  clear hG
  obtain ⟨x0, rfl, b0, d0⟩ := fG_ref (by decide) g0
  obtain ⟨x1, rfl, b1, d1⟩ := aG_int g1
  dsimp only at b1 d1
  obtain ⟨x2, rfl, b2, d2⟩ := aG_int g2
  dsimp only at b2 d2
  obtain ⟨x3, rfl, b3, d3⟩ := aG_int g3
  dsimp only at b3 d3
  obtain ⟨x4, rfl, b4, d4⟩ := aG_int g4
  dsimp only at b4 d4
  obtain ⟨x5, rfl, b5, d5⟩ := aG_int g5
  dsimp only at b5 d5
  obtain ⟨x6, rfl, b6, d6⟩ := aG_int g6
  dsimp only at b6 d6
  obtain ⟨x7, rfl, b7, d7⟩ := aG_int g7
  dsimp only at b7 d7
  obtain ⟨x8, rfl, b8, d8⟩ := fG_ref (by decide) g8
  obtain ⟨m1, m2, m3, m4⟩ := hM
  obtain ⟨a0, c0, fs0, w0, e1, s0, t0, e4⟩ := m1 (0, 0, 8) (List.mem_of_getElem? (i := 0) rfl)
  obtain rfl : x0 = a0 := Sum.inl.inj (Option.some.inj (Sum.inr.inj (Sum.inr.inj (Option.some.inj (show some (fR x0) = some _ from e1)))))
  obtain rfl : fR x8 = w0 := Option.some.inj (show some (fR x8) = some w0 from e4)
  clear e1 e4
  obtain ⟨a, mc0, ty0, gc0, ic0, e1, sc0, jc0, e4, e5⟩ := m2 (8, ([(5, 1)], 0), 6) (List.mem_of_getElem? (i := 0) rfl)
  obtain rfl : x8 = a := Sum.inl.inj (Option.some.inj (Sum.inr.inj (Sum.inr.inj (Option.some.inj (show some (fR x8) = some _ from e1)))))
  obtain ⟨gc0, rfl⟩ : ∃ g, gc0 = .inl g := by
    rcases gc0 with g | g
    · exact ⟨g, rfl⟩
    · exact absurd (show some (fI x6) = some (.inr (.inl (g ic0))) from e5) (fun h => by cases h)
  have sc0 : σ x8 = .inl (ty0, mc0, .inl gc0) := sc0
  have ec0 : x6 = gc0 ic0 := Sum.inl.inj (Option.some.inj (show some (fI x6) = some _ from e5))
  have kc0 : (ic0 : Int) = (1 * x5.toInt + 0) + 0 := by
    obtain ⟨z, e6, e7⟩ := e4
    obtain rfl : (1 * x5.toInt + 0) = z := Option.some.inj (show some (1 * x5.toInt + 0) = some z from e6)
    exact e7
  clear e1 e4 e5
  obtain rfl : ic0 = x5.toInt.toNat := by omega
  have l0 : 0 ≤ (1 * x6.toInt + (-8 * x2.toInt + (-1 * x7.toInt + 0))) + 0 := by
    obtain ⟨z, e6, e7⟩ := m3 ([(6, 1), (2, -8), (7, -1)], 0) (List.mem_of_getElem? (i := 0) rfl)
    obtain rfl : (1 * x6.toInt + (-8 * x2.toInt + (-1 * x7.toInt + 0))) = z := Option.some.inj (show some (1 * x6.toInt + (-8 * x2.toInt + (-1 * x7.toInt + 0))) = some z from e6)
    exact e7
  have l1 : 0 ≤ (-1 * x6.toInt + (8 * x2.toInt + (1 * x7.toInt + 0))) + 0 := by
    obtain ⟨z, e6, e7⟩ := m3 ([(6, -1), (2, 8), (7, 1)], 0) (List.mem_of_getElem? (i := 1) rfl)
    obtain rfl : (-1 * x6.toInt + (8 * x2.toInt + (1 * x7.toInt + 0))) = z := Option.some.inj (show some (-1 * x6.toInt + (8 * x2.toInt + (1 * x7.toInt + 0))) = some z from e6)
    exact e7
  have l2 : 0 ≤ (1 * x7.toInt + 0) + -4 := by
    obtain ⟨z, e6, e7⟩ := m3 ([(7, 1)], -4) (List.mem_of_getElem? (i := 2) rfl)
    obtain rfl : (1 * x7.toInt + 0) = z := Option.some.inj (show some (1 * x7.toInt + 0) = some z from e6)
    exact e7
  have l3 : 0 ≤ (-1 * x7.toInt + 0) + 4 := by
    obtain ⟨z, e6, e7⟩ := m3 ([(7, -1)], 4) (List.mem_of_getElem? (i := 3) rfl)
    obtain rfl : (-1 * x7.toInt + 0) = z := Option.some.inj (show some (-1 * x7.toInt + 0) = some z from e6)
    exact e7
  have f0 : fB K n p 202 [fR x0, fI x1, fI x2, fI x3, fI x4] σ := by
    obtain ⟨w, e6, e7⟩ := m4 (3237, [0, 1, 2, 3, 4]) (List.mem_of_getElem? (i := 0) rfl)
    obtain rfl : [fR x0, fI x1, fI x2, fI x3, fI x4] = w := Option.some.inj (show some [fR x0, fI x1, fI x2, fI x3, fI x4] = some w from e6)
    exact (fF_b (r := 3237) (by decide) rfl).mp e7
  have f1 : fB K n p 18 [fI x1, fI x3, fI x4, fI x5] σ := by
    obtain ⟨w, e6, e7⟩ := m4 (292, [1, 3, 4, 5]) (List.mem_of_getElem? (i := 1) rfl)
    obtain rfl : [fI x1, fI x3, fI x4, fI x5] = w := Option.some.inj (show some [fI x1, fI x3, fI x4, fI x5] = some w from e6)
    exact (fF_b (r := 292) (by decide) rfl).mp e7
  clear m1 m2 m3 m4
  obtain ⟨b9_0, g0, r9_0, e9_0, w0, y0_0, y0_1, y0_2, y0_3, e8_0, n0, r0, m0⟩ := (fH_o (by decide) (by decide)).mp f0
  cases e9_0
  cases e8_0
  obtain ⟨y1_0, y1_1, y1_2, y1_3, e9_1, h1, i1, t1_⟩ := f1
  cases e9_1
  obtain rfl := fMe_c w0 s0 t0 sc0
  have q0 : fB K n (p) 207 [fR x0, fI x1, fI x2, fI x3] σ := by
    refine (fH_o (by decide) (by decide)).mpr ⟨x0, g0, _, rfl, w0, x1, x2, x3, rfl, n0, fun j j1 j2 => ?_⟩
    by_cases hj : j < x3.toInt
    · exact r0 j j1 hj
    · obtain rfl : j = x3.toInt := by omega
      rintro ⟨q, q1, q2, q3, q4, q5⟩
      rcases Int.lt_trichotomy q x4.toInt with hq | hq | hq
      · exact q4 (m0 q q1 hq)
      · rw [hq, ← t1_, ← ec0] at q5
        unfold fHit at q5
        omega
      · have h9 := q3 x4.toInt h1 hq
        rw [← t1_, ← ec0] at h9
        omega
  exact ⟨p, fun _ => rfl, ⟨(fun q h => by cases h), fun q h => (by cases h), (fun f h => by cases h), (aAllc ⟨_, rfl, (fF_b (r := 3316) (by decide) rfl).mpr q0⟩ (fun f h => by cases h))⟩, [], List.mem_cons_self, fun f h => (by cases h)⟩
set_option maxRecDepth 8192 in
theorem rw_ruNR6 {K : Nat → Nat} {n : Nat} : aGho (fF K n) fa_T K n (fJX K n) ag_ruNR6 := by
  refine aGho_of ⟨rfl, rfl⟩ ?_
  intro p σ ρ hH hX hA hM
  have hG := aAG_of hA.1 (fun i e v he hv => (hA.2 i e v he hv).1)
  clear hA
  obtain ⟨v0, v1, v2, v3, v4, v5, v6, v7, v8, rfl, g0, g1, g2, g3, g4, g5, g6, g7, g8⟩ := fA_9 hG
  clear hG
  obtain ⟨x0, rfl, b0, d0⟩ := fG_ref (by decide) g0
  obtain ⟨x1, rfl, b1, d1⟩ := aG_int g1
  dsimp only at b1 d1
  obtain ⟨x2, rfl, b2, d2⟩ := aG_int g2
  dsimp only at b2 d2
  obtain ⟨x3, rfl, b3, d3⟩ := aG_int g3
  dsimp only at b3 d3
  obtain ⟨x4, rfl, b4, d4⟩ := aG_int g4
  dsimp only at b4 d4
  obtain ⟨x5, rfl, b5, d5⟩ := aG_int g5
  dsimp only at b5 d5
  obtain ⟨x6, rfl, b6, d6⟩ := aG_int g6
  dsimp only at b6 d6
  obtain ⟨x7, rfl, b7, d7⟩ := aG_int g7
  dsimp only at b7 d7
  obtain ⟨x8, rfl, b8, d8⟩ := fG_ref (by decide) g8
  obtain ⟨m1, m2, m3, m4⟩ := hM
  obtain ⟨a0, c0, fs0, w0, e1, s0, t0, e4⟩ := m1 (0, 0, 8) (List.mem_of_getElem? (i := 0) rfl)
  obtain rfl : x0 = a0 := Sum.inl.inj (Option.some.inj (Sum.inr.inj (Sum.inr.inj (Option.some.inj (show some (fR x0) = some _ from e1)))))
  obtain rfl : fR x8 = w0 := Option.some.inj (show some (fR x8) = some w0 from e4)
  clear e1 e4
  obtain ⟨a, mc0, ty0, gc0, ic0, e1, sc0, jc0, e4, e5⟩ := m2 (8, ([(5, 1)], 0), 6) (List.mem_of_getElem? (i := 0) rfl)
  obtain rfl : x8 = a := Sum.inl.inj (Option.some.inj (Sum.inr.inj (Sum.inr.inj (Option.some.inj (show some (fR x8) = some _ from e1)))))
  obtain ⟨gc0, rfl⟩ : ∃ g, gc0 = .inl g := by
    rcases gc0 with g | g
    · exact ⟨g, rfl⟩
    · exact absurd (show some (fI x6) = some (.inr (.inl (g ic0))) from e5) (fun h => by cases h)
  have sc0 : σ x8 = .inl (ty0, mc0, .inl gc0) := sc0
  have ec0 : x6 = gc0 ic0 := Sum.inl.inj (Option.some.inj (show some (fI x6) = some _ from e5))
  have kc0 : (ic0 : Int) = (1 * x5.toInt + 0) + 0 := by
    obtain ⟨z, e6, e7⟩ := e4
    obtain rfl : (1 * x5.toInt + 0) = z := Option.some.inj (show some (1 * x5.toInt + 0) = some z from e6)
    exact e7
  clear e1 e4 e5
  obtain rfl : ic0 = x5.toInt.toNat := by omega
  have l0 : 0 ≤ (1 * x6.toInt + (-8 * x2.toInt + (-1 * x7.toInt + 0))) + 0 := by
    obtain ⟨z, e6, e7⟩ := m3 ([(6, 1), (2, -8), (7, -1)], 0) (List.mem_of_getElem? (i := 0) rfl)
    obtain rfl : (1 * x6.toInt + (-8 * x2.toInt + (-1 * x7.toInt + 0))) = z := Option.some.inj (show some (1 * x6.toInt + (-8 * x2.toInt + (-1 * x7.toInt + 0))) = some z from e6)
    exact e7
  have l1 : 0 ≤ (-1 * x6.toInt + (8 * x2.toInt + (1 * x7.toInt + 0))) + 0 := by
    obtain ⟨z, e6, e7⟩ := m3 ([(6, -1), (2, 8), (7, 1)], 0) (List.mem_of_getElem? (i := 1) rfl)
    obtain rfl : (-1 * x6.toInt + (8 * x2.toInt + (1 * x7.toInt + 0))) = z := Option.some.inj (show some (-1 * x6.toInt + (8 * x2.toInt + (1 * x7.toInt + 0))) = some z from e6)
    exact e7
  have l2 : 0 ≤ (1 * x7.toInt + 0) + -6 := by
    obtain ⟨z, e6, e7⟩ := m3 ([(7, 1)], -6) (List.mem_of_getElem? (i := 2) rfl)
    obtain rfl : (1 * x7.toInt + 0) = z := Option.some.inj (show some (1 * x7.toInt + 0) = some z from e6)
    exact e7
  have l3 : 0 ≤ (-1 * x7.toInt + 0) + 6 := by
    obtain ⟨z, e6, e7⟩ := m3 ([(7, -1)], 6) (List.mem_of_getElem? (i := 3) rfl)
    obtain rfl : (-1 * x7.toInt + 0) = z := Option.some.inj (show some (-1 * x7.toInt + 0) = some z from e6)
    exact e7
  have f0 : fB K n p 202 [fR x0, fI x1, fI x2, fI x3, fI x4] σ := by
    obtain ⟨w, e6, e7⟩ := m4 (3237, [0, 1, 2, 3, 4]) (List.mem_of_getElem? (i := 0) rfl)
    obtain rfl : [fR x0, fI x1, fI x2, fI x3, fI x4] = w := Option.some.inj (show some [fR x0, fI x1, fI x2, fI x3, fI x4] = some w from e6)
    exact (fF_b (r := 3237) (by decide) rfl).mp e7
  have f1 : fB K n p 18 [fI x1, fI x3, fI x4, fI x5] σ := by
    obtain ⟨w, e6, e7⟩ := m4 (292, [1, 3, 4, 5]) (List.mem_of_getElem? (i := 1) rfl)
    obtain rfl : [fI x1, fI x3, fI x4, fI x5] = w := Option.some.inj (show some [fI x1, fI x3, fI x4, fI x5] = some w from e6)
    exact (fF_b (r := 292) (by decide) rfl).mp e7
  clear m1 m2 m3 m4
  obtain ⟨b9_0, g0, r9_0, e9_0, w0, y0_0, y0_1, y0_2, y0_3, e8_0, n0, r0, m0⟩ := (fH_o (by decide) (by decide)).mp f0
  cases e9_0
  cases e8_0
  obtain ⟨y1_0, y1_1, y1_2, y1_3, e9_1, h1, i1, t1_⟩ := f1
  cases e9_1
  obtain rfl := fMe_c w0 s0 t0 sc0
  have q0 : fB K n (p) 207 [fR x0, fI x1, fI x2, fI x3] σ := by
    refine (fH_o (by decide) (by decide)).mpr ⟨x0, g0, _, rfl, w0, x1, x2, x3, rfl, n0, fun j j1 j2 => ?_⟩
    by_cases hj : j < x3.toInt
    · exact r0 j j1 hj
    · obtain rfl : j = x3.toInt := by omega
      rintro ⟨q, q1, q2, q3, q4, q5⟩
      rcases Int.lt_trichotomy q x4.toInt with hq | hq | hq
      · exact q4 (m0 q q1 hq)
      · rw [hq, ← t1_, ← ec0] at q5
        unfold fHit at q5
        omega
      · have h9 := q3 x4.toInt h1 hq
        rw [← t1_, ← ec0] at h9
        omega
  exact ⟨p, fun _ => rfl, ⟨(fun q h => by cases h), fun q h => (by cases h), (fun f h => by cases h), (aAllc ⟨_, rfl, (fF_b (r := 3316) (by decide) rfl).mpr q0⟩ (fun f h => by cases h))⟩, [], List.mem_cons_self, fun f h => (by cases h)⟩
set_option maxRecDepth 8192 in
theorem rw_ruNR1a {K : Nat → Nat} {n : Nat} : aGho (fF K n) fa_T K n (fJX K n) ag_ruNR1a := by
  refine aGho_of ⟨rfl, rfl⟩ ?_
  intro p σ ρ hH hX hA hM
  have hG := aAG_of hA.1 (fun i e v he hv => (hA.2 i e v he hv).1)
  clear hA
  obtain ⟨v0, v1, v2, v3, v4, v5, v6, v7, v8, rfl, g0, g1, g2, g3, g4, g5, g6, g7, g8⟩ := fA_9 hG
  clear hG
  obtain ⟨x0, rfl, b0, d0⟩ := fG_ref (by decide) g0
  obtain ⟨x1, rfl, b1, d1⟩ := aG_int g1
  dsimp only at b1 d1
  obtain ⟨x2, rfl, b2, d2⟩ := aG_int g2
  dsimp only at b2 d2
  obtain ⟨x3, rfl, b3, d3⟩ := aG_int g3
  dsimp only at b3 d3
  obtain ⟨x4, rfl, b4, d4⟩ := aG_int g4
  dsimp only at b4 d4
  obtain ⟨x5, rfl, b5, d5⟩ := aG_int g5
  dsimp only at b5 d5
  obtain ⟨x6, rfl, b6, d6⟩ := aG_int g6
  dsimp only at b6 d6
  obtain ⟨x7, rfl, b7, d7⟩ := aG_int g7
  dsimp only at b7 d7
  obtain ⟨x8, rfl, b8, d8⟩ := fG_ref (by decide) g8
  obtain ⟨m1, m2, m3, m4⟩ := hM
  obtain ⟨a0, c0, fs0, w0, e1, s0, t0, e4⟩ := m1 (0, 0, 8) (List.mem_of_getElem? (i := 0) rfl)
  obtain rfl : x0 = a0 := Sum.inl.inj (Option.some.inj (Sum.inr.inj (Sum.inr.inj (Option.some.inj (show some (fR x0) = some _ from e1)))))
  obtain rfl : fR x8 = w0 := Option.some.inj (show some (fR x8) = some w0 from e4)
  clear e1 e4
  obtain ⟨a, mc0, ty0, gc0, ic0, e1, sc0, jc0, e4, e5⟩ := m2 (8, ([(5, 1)], 0), 6) (List.mem_of_getElem? (i := 0) rfl)
  obtain rfl : x8 = a := Sum.inl.inj (Option.some.inj (Sum.inr.inj (Sum.inr.inj (Option.some.inj (show some (fR x8) = some _ from e1)))))
  obtain ⟨gc0, rfl⟩ : ∃ g, gc0 = .inl g := by
    rcases gc0 with g | g
    · exact ⟨g, rfl⟩
    · exact absurd (show some (fI x6) = some (.inr (.inl (g ic0))) from e5) (fun h => by cases h)
  have sc0 : σ x8 = .inl (ty0, mc0, .inl gc0) := sc0
  have ec0 : x6 = gc0 ic0 := Sum.inl.inj (Option.some.inj (show some (fI x6) = some _ from e5))
  have kc0 : (ic0 : Int) = (1 * x5.toInt + 0) + 0 := by
    obtain ⟨z, e6, e7⟩ := e4
    obtain rfl : (1 * x5.toInt + 0) = z := Option.some.inj (show some (1 * x5.toInt + 0) = some z from e6)
    exact e7
  clear e1 e4 e5
  obtain rfl : ic0 = x5.toInt.toNat := by omega
  have l0 : 0 ≤ (1 * x6.toInt + (-8 * x2.toInt + (-1 * x7.toInt + 0))) + 0 := by
    obtain ⟨z, e6, e7⟩ := m3 ([(6, 1), (2, -8), (7, -1)], 0) (List.mem_of_getElem? (i := 0) rfl)
    obtain rfl : (1 * x6.toInt + (-8 * x2.toInt + (-1 * x7.toInt + 0))) = z := Option.some.inj (show some (1 * x6.toInt + (-8 * x2.toInt + (-1 * x7.toInt + 0))) = some z from e6)
    exact e7
  have l1 : 0 ≤ (-1 * x6.toInt + (8 * x2.toInt + (1 * x7.toInt + 0))) + 0 := by
    obtain ⟨z, e6, e7⟩ := m3 ([(6, -1), (2, 8), (7, 1)], 0) (List.mem_of_getElem? (i := 1) rfl)
    obtain rfl : (-1 * x6.toInt + (8 * x2.toInt + (1 * x7.toInt + 0))) = z := Option.some.inj (show some (-1 * x6.toInt + (8 * x2.toInt + (1 * x7.toInt + 0))) = some z from e6)
    exact e7
  have l2 : 0 ≤ (1 * x7.toInt + 0) + -1 := by
    obtain ⟨z, e6, e7⟩ := m3 ([(7, 1)], -1) (List.mem_of_getElem? (i := 2) rfl)
    obtain rfl : (1 * x7.toInt + 0) = z := Option.some.inj (show some (1 * x7.toInt + 0) = some z from e6)
    exact e7
  have l3 : 0 ≤ (-1 * x7.toInt + 0) + 1 := by
    obtain ⟨z, e6, e7⟩ := m3 ([(7, -1)], 1) (List.mem_of_getElem? (i := 3) rfl)
    obtain rfl : (-1 * x7.toInt + 0) = z := Option.some.inj (show some (-1 * x7.toInt + 0) = some z from e6)
    exact e7
  have f0 : fB K n p 202 [fR x0, fI x1, fI x2, fI x3, fI x4] σ := by
    obtain ⟨w, e6, e7⟩ := m4 (3237, [0, 1, 2, 3, 4]) (List.mem_of_getElem? (i := 0) rfl)
    obtain rfl : [fR x0, fI x1, fI x2, fI x3, fI x4] = w := Option.some.inj (show some [fR x0, fI x1, fI x2, fI x3, fI x4] = some w from e6)
    exact (fF_b (r := 3237) (by decide) rfl).mp e7
  have f1 : fB K n p 18 [fI x1, fI x3, fI x4, fI x5] σ := by
    obtain ⟨w, e6, e7⟩ := m4 (292, [1, 3, 4, 5]) (List.mem_of_getElem? (i := 1) rfl)
    obtain rfl : [fI x1, fI x3, fI x4, fI x5] = w := Option.some.inj (show some [fI x1, fI x3, fI x4, fI x5] = some w from e6)
    exact (fF_b (r := 292) (by decide) rfl).mp e7
  clear m1 m2 m3 m4
  obtain ⟨b9_0, g0, r9_0, e9_0, w0, y0_0, y0_1, y0_2, y0_3, e8_0, n0, r0, m0⟩ := (fH_o (by decide) (by decide)).mp f0
  cases e9_0
  cases e8_0
  obtain ⟨y1_0, y1_1, y1_2, y1_3, e9_1, h1, i1, t1_⟩ := f1
  cases e9_1
  obtain rfl := fMe_c w0 s0 t0 sc0
  have q0 : fB K n (p) 207 [fR x0, fI x1, fI x2, fI x3] σ := by
    refine (fH_o (by decide) (by decide)).mpr ⟨x0, g0, _, rfl, w0, x1, x2, x3, rfl, n0, fun j j1 j2 => ?_⟩
    by_cases hj : j < x3.toInt
    · exact r0 j j1 hj
    · obtain rfl : j = x3.toInt := by omega
      rintro ⟨q, q1, q2, q3, q4, q5⟩
      rcases Int.lt_trichotomy q x4.toInt with hq | hq | hq
      · exact q4 (m0 q q1 hq)
      · rw [hq, ← t1_, ← ec0] at q5
        unfold fHit at q5
        omega
      · have h9 := q3 x4.toInt h1 hq
        rw [← t1_, ← ec0] at h9
        omega
  exact ⟨p, fun _ => rfl, ⟨(fun q h => by cases h), fun q h => (by cases h), (fun f h => by cases h), (aAllc ⟨_, rfl, (fF_b (r := 3316) (by decide) rfl).mpr q0⟩ (fun f h => by cases h))⟩, [], List.mem_cons_self, fun f h => (by cases h)⟩
set_option maxRecDepth 8192 in
theorem rw_ruNR1b {K : Nat → Nat} {n : Nat} : aGho (fF K n) fa_T K n (fJX K n) ag_ruNR1b := by
  refine aGho_of ⟨rfl, rfl⟩ ?_
  intro p σ ρ hH hX hA hM
  have hG := aAG_of hA.1 (fun i e v he hv => (hA.2 i e v he hv).1)
  clear hA
  obtain ⟨v0, v1, v2, v3, v4, v5, v6, v7, v8, rfl, g0, g1, g2, g3, g4, g5, g6, g7, g8⟩ := fA_9 hG
  clear hG
  obtain ⟨x0, rfl, b0, d0⟩ := fG_ref (by decide) g0
  obtain ⟨x1, rfl, b1, d1⟩ := aG_int g1
  dsimp only at b1 d1
  obtain ⟨x2, rfl, b2, d2⟩ := aG_int g2
  dsimp only at b2 d2
  obtain ⟨x3, rfl, b3, d3⟩ := aG_int g3
  dsimp only at b3 d3
  obtain ⟨x4, rfl, b4, d4⟩ := aG_int g4
  dsimp only at b4 d4
  obtain ⟨x5, rfl, b5, d5⟩ := aG_int g5
  dsimp only at b5 d5
  obtain ⟨x6, rfl, b6, d6⟩ := aG_int g6
  dsimp only at b6 d6
  obtain ⟨x7, rfl, b7, d7⟩ := aG_int g7
  dsimp only at b7 d7
  obtain ⟨x8, rfl, b8, d8⟩ := fG_ref (by decide) g8
  obtain ⟨m1, m2, m3, m4⟩ := hM
  obtain ⟨a0, c0, fs0, w0, e1, s0, t0, e4⟩ := m1 (0, 0, 8) (List.mem_of_getElem? (i := 0) rfl)
  obtain rfl : x0 = a0 := Sum.inl.inj (Option.some.inj (Sum.inr.inj (Sum.inr.inj (Option.some.inj (show some (fR x0) = some _ from e1)))))
  obtain rfl : fR x8 = w0 := Option.some.inj (show some (fR x8) = some w0 from e4)
  clear e1 e4
  obtain ⟨a, mc0, ty0, gc0, ic0, e1, sc0, jc0, e4, e5⟩ := m2 (8, ([(5, 1)], 0), 6) (List.mem_of_getElem? (i := 0) rfl)
  obtain rfl : x8 = a := Sum.inl.inj (Option.some.inj (Sum.inr.inj (Sum.inr.inj (Option.some.inj (show some (fR x8) = some _ from e1)))))
  obtain ⟨gc0, rfl⟩ : ∃ g, gc0 = .inl g := by
    rcases gc0 with g | g
    · exact ⟨g, rfl⟩
    · exact absurd (show some (fI x6) = some (.inr (.inl (g ic0))) from e5) (fun h => by cases h)
  have sc0 : σ x8 = .inl (ty0, mc0, .inl gc0) := sc0
  have ec0 : x6 = gc0 ic0 := Sum.inl.inj (Option.some.inj (show some (fI x6) = some _ from e5))
  have kc0 : (ic0 : Int) = (1 * x5.toInt + 0) + 0 := by
    obtain ⟨z, e6, e7⟩ := e4
    obtain rfl : (1 * x5.toInt + 0) = z := Option.some.inj (show some (1 * x5.toInt + 0) = some z from e6)
    exact e7
  clear e1 e4 e5
  obtain rfl : ic0 = x5.toInt.toNat := by omega
  have l0 : 0 ≤ (1 * x6.toInt + (-8 * x2.toInt + (-1 * x7.toInt + 0))) + 0 := by
    obtain ⟨z, e6, e7⟩ := m3 ([(6, 1), (2, -8), (7, -1)], 0) (List.mem_of_getElem? (i := 0) rfl)
    obtain rfl : (1 * x6.toInt + (-8 * x2.toInt + (-1 * x7.toInt + 0))) = z := Option.some.inj (show some (1 * x6.toInt + (-8 * x2.toInt + (-1 * x7.toInt + 0))) = some z from e6)
    exact e7
  have l1 : 0 ≤ (-1 * x6.toInt + (8 * x2.toInt + (1 * x7.toInt + 0))) + 0 := by
    obtain ⟨z, e6, e7⟩ := m3 ([(6, -1), (2, 8), (7, 1)], 0) (List.mem_of_getElem? (i := 1) rfl)
    obtain rfl : (-1 * x6.toInt + (8 * x2.toInt + (1 * x7.toInt + 0))) = z := Option.some.inj (show some (-1 * x6.toInt + (8 * x2.toInt + (1 * x7.toInt + 0))) = some z from e6)
    exact e7
  have l2 : 0 ≤ (1 * x7.toInt + 0) + -1 := by
    obtain ⟨z, e6, e7⟩ := m3 ([(7, 1)], -1) (List.mem_of_getElem? (i := 2) rfl)
    obtain rfl : (1 * x7.toInt + 0) = z := Option.some.inj (show some (1 * x7.toInt + 0) = some z from e6)
    exact e7
  have l3 : 0 ≤ (-1 * x7.toInt + 0) + 1 := by
    obtain ⟨z, e6, e7⟩ := m3 ([(7, -1)], 1) (List.mem_of_getElem? (i := 3) rfl)
    obtain rfl : (-1 * x7.toInt + 0) = z := Option.some.inj (show some (-1 * x7.toInt + 0) = some z from e6)
    exact e7
  have f0 : fB K n p 202 [fR x0, fI x1, fI x2, fI x3, fI x4] σ := by
    obtain ⟨w, e6, e7⟩ := m4 (3237, [0, 1, 2, 3, 4]) (List.mem_of_getElem? (i := 0) rfl)
    obtain rfl : [fR x0, fI x1, fI x2, fI x3, fI x4] = w := Option.some.inj (show some [fR x0, fI x1, fI x2, fI x3, fI x4] = some w from e6)
    exact (fF_b (r := 3237) (by decide) rfl).mp e7
  have f1 : fB K n p 18 [fI x1, fI x3, fI x4, fI x5] σ := by
    obtain ⟨w, e6, e7⟩ := m4 (292, [1, 3, 4, 5]) (List.mem_of_getElem? (i := 1) rfl)
    obtain rfl : [fI x1, fI x3, fI x4, fI x5] = w := Option.some.inj (show some [fI x1, fI x3, fI x4, fI x5] = some w from e6)
    exact (fF_b (r := 292) (by decide) rfl).mp e7
  clear m1 m2 m3 m4
  obtain ⟨b9_0, g0, r9_0, e9_0, w0, y0_0, y0_1, y0_2, y0_3, e8_0, n0, r0, m0⟩ := (fH_o (by decide) (by decide)).mp f0
  cases e9_0
  cases e8_0
  obtain ⟨y1_0, y1_1, y1_2, y1_3, e9_1, h1, i1, t1_⟩ := f1
  cases e9_1
  obtain rfl := fMe_c w0 s0 t0 sc0
  have q0 : fB K n (p) 207 [fR x0, fI x1, fI x2, fI x3] σ := by
    refine (fH_o (by decide) (by decide)).mpr ⟨x0, g0, _, rfl, w0, x1, x2, x3, rfl, n0, fun j j1 j2 => ?_⟩
    by_cases hj : j < x3.toInt
    · exact r0 j j1 hj
    · obtain rfl : j = x3.toInt := by omega
      rintro ⟨q, q1, q2, q3, q4, q5⟩
      rcases Int.lt_trichotomy q x4.toInt with hq | hq | hq
      · exact q4 (m0 q q1 hq)
      · rw [hq, ← t1_, ← ec0] at q5
        unfold fHit at q5
        omega
      · have h9 := q3 x4.toInt h1 hq
        rw [← t1_, ← ec0] at h9
        omega
  exact ⟨p, fun _ => rfl, ⟨(fun q h => by cases h), fun q h => (by cases h), (fun f h => by cases h), (aAllc ⟨_, rfl, (fF_b (r := 3316) (by decide) rfl).mpr q0⟩ (fun f h => by cases h))⟩, [], List.mem_cons_self, fun f h => (by cases h)⟩
set_option maxRecDepth 8192 in
theorem rw_ruNR1c {K : Nat → Nat} {n : Nat} : aGho (fF K n) fa_T K n (fJX K n) ag_ruNR1c := by
  refine aGho_of ⟨rfl, rfl⟩ ?_
  intro p σ ρ hH hX hA hM
  have hG := aAG_of hA.1 (fun i e v he hv => (hA.2 i e v he hv).1)
  clear hA
  obtain ⟨v0, v1, v2, v3, v4, v5, v6, v7, v8, v9, rfl, g0, g1, g2, g3, g4, g5, g6, g7, g8, g9⟩ := fA_10 hG
  clear hG
  obtain ⟨x0, rfl, b0, d0⟩ := fG_ref (by decide) g0
  obtain ⟨x1, rfl, b1, d1⟩ := aG_int g1
  dsimp only at b1 d1
  obtain ⟨x2, rfl, b2, d2⟩ := aG_int g2
  dsimp only at b2 d2
  obtain ⟨x3, rfl, b3, d3⟩ := aG_int g3
  dsimp only at b3 d3
  obtain ⟨x4, rfl, b4, d4⟩ := aG_int g4
  dsimp only at b4 d4
  obtain ⟨x5, rfl, b5, d5⟩ := aG_int g5
  dsimp only at b5 d5
  obtain ⟨x6, rfl, b6, d6⟩ := aG_int g6
  dsimp only at b6 d6
  obtain ⟨x7, rfl, b7, d7⟩ := aG_int g7
  dsimp only at b7 d7
  obtain ⟨x8, rfl, b8, d8⟩ := aG_int g8
  dsimp only at b8 d8
  obtain ⟨x9, rfl, b9, d9⟩ := fG_ref (by decide) g9
  obtain ⟨m1, m2, m3, m4⟩ := hM
  obtain ⟨a0, c0, fs0, w0, e1, s0, t0, e4⟩ := m1 (0, 0, 9) (List.mem_of_getElem? (i := 0) rfl)
  obtain rfl : x0 = a0 := Sum.inl.inj (Option.some.inj (Sum.inr.inj (Sum.inr.inj (Option.some.inj (show some (fR x0) = some _ from e1)))))
  obtain rfl : fR x9 = w0 := Option.some.inj (show some (fR x9) = some w0 from e4)
  clear e1 e4
  obtain ⟨a, mc0, ty0, gc0, ic0, e1, sc0, jc0, e4, e5⟩ := m2 (9, ([(5, 1)], 0), 6) (List.mem_of_getElem? (i := 0) rfl)
  obtain rfl : x9 = a := Sum.inl.inj (Option.some.inj (Sum.inr.inj (Sum.inr.inj (Option.some.inj (show some (fR x9) = some _ from e1)))))
  obtain ⟨gc0, rfl⟩ : ∃ g, gc0 = .inl g := by
    rcases gc0 with g | g
    · exact ⟨g, rfl⟩
    · exact absurd (show some (fI x6) = some (.inr (.inl (g ic0))) from e5) (fun h => by cases h)
  have sc0 : σ x9 = .inl (ty0, mc0, .inl gc0) := sc0
  have ec0 : x6 = gc0 ic0 := Sum.inl.inj (Option.some.inj (show some (fI x6) = some _ from e5))
  have kc0 : (ic0 : Int) = (1 * x5.toInt + 0) + 0 := by
    obtain ⟨z, e6, e7⟩ := e4
    obtain rfl : (1 * x5.toInt + 0) = z := Option.some.inj (show some (1 * x5.toInt + 0) = some z from e6)
    exact e7
  clear e1 e4 e5
  obtain rfl : ic0 = x5.toInt.toNat := by omega
  have l0 : 0 ≤ (1 * x6.toInt + (-8 * x2.toInt + (-1 * x7.toInt + 0))) + 0 := by
    obtain ⟨z, e6, e7⟩ := m3 ([(6, 1), (2, -8), (7, -1)], 0) (List.mem_of_getElem? (i := 0) rfl)
    obtain rfl : (1 * x6.toInt + (-8 * x2.toInt + (-1 * x7.toInt + 0))) = z := Option.some.inj (show some (1 * x6.toInt + (-8 * x2.toInt + (-1 * x7.toInt + 0))) = some z from e6)
    exact e7
  have l1 : 0 ≤ (-1 * x6.toInt + (8 * x2.toInt + (1 * x7.toInt + 0))) + 0 := by
    obtain ⟨z, e6, e7⟩ := m3 ([(6, -1), (2, 8), (7, 1)], 0) (List.mem_of_getElem? (i := 1) rfl)
    obtain rfl : (-1 * x6.toInt + (8 * x2.toInt + (1 * x7.toInt + 0))) = z := Option.some.inj (show some (-1 * x6.toInt + (8 * x2.toInt + (1 * x7.toInt + 0))) = some z from e6)
    exact e7
  have l2 : 0 ≤ (1 * x7.toInt + 0) + -1 := by
    obtain ⟨z, e6, e7⟩ := m3 ([(7, 1)], -1) (List.mem_of_getElem? (i := 2) rfl)
    obtain rfl : (1 * x7.toInt + 0) = z := Option.some.inj (show some (1 * x7.toInt + 0) = some z from e6)
    exact e7
  have l3 : 0 ≤ (-1 * x7.toInt + 0) + 1 := by
    obtain ⟨z, e6, e7⟩ := m3 ([(7, -1)], 1) (List.mem_of_getElem? (i := 3) rfl)
    obtain rfl : (-1 * x7.toInt + 0) = z := Option.some.inj (show some (-1 * x7.toInt + 0) = some z from e6)
    exact e7
  have f0 : fB K n p 202 [fR x0, fI x1, fI x2, fI x3, fI x4] σ := by
    obtain ⟨w, e6, e7⟩ := m4 (3237, [0, 1, 2, 3, 4]) (List.mem_of_getElem? (i := 0) rfl)
    obtain rfl : [fR x0, fI x1, fI x2, fI x3, fI x4] = w := Option.some.inj (show some [fR x0, fI x1, fI x2, fI x3, fI x4] = some w from e6)
    exact (fF_b (r := 3237) (by decide) rfl).mp e7
  have f1 : fB K n p 18 [fI x1, fI x3, fI x4, fI x5] σ := by
    obtain ⟨w, e6, e7⟩ := m4 (292, [1, 3, 4, 5]) (List.mem_of_getElem? (i := 1) rfl)
    obtain rfl : [fI x1, fI x3, fI x4, fI x5] = w := Option.some.inj (show some [fI x1, fI x3, fI x4, fI x5] = some w from e6)
    exact (fF_b (r := 292) (by decide) rfl).mp e7
  have f2 : fB K n p 22 [fI x3, fI x8] σ := by
    obtain ⟨w, e6, e7⟩ := m4 (354, [3, 8]) (List.mem_of_getElem? (i := 2) rfl)
    obtain rfl : [fI x3, fI x8] = w := Option.some.inj (show some [fI x3, fI x8] = some w from e6)
    exact (fF_b (r := 354) (by decide) rfl).mp e7
  clear m1 m2 m3 m4
  obtain ⟨b9_0, g0, r9_0, e9_0, w0, y0_0, y0_1, y0_2, y0_3, e8_0, n0, r0, m0⟩ := (fH_o (by decide) (by decide)).mp f0
  cases e9_0
  cases e8_0
  obtain ⟨y1_0, y1_1, y1_2, y1_3, e9_1, h1, i1, t1_⟩ := f1
  cases e9_1
  obtain ⟨y2_0, y2_1, e9_2, h2⟩ := f2
  cases e9_2
  obtain rfl := fMe_c w0 s0 t0 sc0
  have q0 : fB K n (p) 207 [fR x0, fI x1, fI x2, fI x3] σ := by
    refine (fH_o (by decide) (by decide)).mpr ⟨x0, g0, _, rfl, w0, x1, x2, x3, rfl, n0, fun j j1 j2 => ?_⟩
    by_cases hj : j < x3.toInt
    · exact r0 j j1 hj
    · obtain rfl : j = x3.toInt := by omega
      rintro ⟨q, q1, q2, q3, q4, q5⟩
      rcases Int.lt_trichotomy q x4.toInt with hq | hq | hq
      · exact q4 (m0 q q1 hq)
      · rw [hq, ← t1_, ← ec0] at q5
        unfold fHit at q5
        omega
      · have h9 := q3 x4.toInt h1 hq
        rw [← t1_, ← ec0] at h9
        omega
  exact ⟨p, fun _ => rfl, ⟨(fun q h => by cases h), fun q h => (by cases h), (fun f h => by cases h), (aAllc ⟨_, rfl, (fF_b (r := 3316) (by decide) rfl).mpr q0⟩ (fun f h => by cases h))⟩, [], List.mem_cons_self, fun f h => (by cases h)⟩
set_option maxRecDepth 8192 in
theorem rw_ruNR1d {K : Nat → Nat} {n : Nat} : aGho (fF K n) fa_T K n (fJX K n) ag_ruNR1d := by
  refine aGho_of ⟨rfl, rfl⟩ ?_
  intro p σ ρ hH hX hA hM
  have hG := aAG_of hA.1 (fun i e v he hv => (hA.2 i e v he hv).1)
  clear hA
  obtain ⟨v0, v1, v2, v3, v4, v5, v6, v7, v8, v9, rfl, g0, g1, g2, g3, g4, g5, g6, g7, g8, g9⟩ := fA_10 hG
  clear hG
  obtain ⟨x0, rfl, b0, d0⟩ := fG_ref (by decide) g0
  obtain ⟨x1, rfl, b1, d1⟩ := aG_int g1
  dsimp only at b1 d1
  obtain ⟨x2, rfl, b2, d2⟩ := aG_int g2
  dsimp only at b2 d2
  obtain ⟨x3, rfl, b3, d3⟩ := aG_int g3
  dsimp only at b3 d3
  obtain ⟨x4, rfl, b4, d4⟩ := aG_int g4
  dsimp only at b4 d4
  obtain ⟨x5, rfl, b5, d5⟩ := aG_int g5
  dsimp only at b5 d5
  obtain ⟨x6, rfl, b6, d6⟩ := aG_int g6
  dsimp only at b6 d6
  obtain ⟨x7, rfl, b7, d7⟩ := aG_int g7
  dsimp only at b7 d7
  obtain ⟨x8, rfl, b8, d8⟩ := aG_int g8
  dsimp only at b8 d8
  obtain ⟨x9, rfl, b9, d9⟩ := fG_ref (by decide) g9
  obtain ⟨m1, m2, m3, m4⟩ := hM
  obtain ⟨a0, c0, fs0, w0, e1, s0, t0, e4⟩ := m1 (0, 0, 9) (List.mem_of_getElem? (i := 0) rfl)
  obtain rfl : x0 = a0 := Sum.inl.inj (Option.some.inj (Sum.inr.inj (Sum.inr.inj (Option.some.inj (show some (fR x0) = some _ from e1)))))
  obtain rfl : fR x9 = w0 := Option.some.inj (show some (fR x9) = some w0 from e4)
  clear e1 e4
  obtain ⟨a, mc0, ty0, gc0, ic0, e1, sc0, jc0, e4, e5⟩ := m2 (9, ([(5, 1)], 0), 6) (List.mem_of_getElem? (i := 0) rfl)
  obtain rfl : x9 = a := Sum.inl.inj (Option.some.inj (Sum.inr.inj (Sum.inr.inj (Option.some.inj (show some (fR x9) = some _ from e1)))))
  obtain ⟨gc0, rfl⟩ : ∃ g, gc0 = .inl g := by
    rcases gc0 with g | g
    · exact ⟨g, rfl⟩
    · exact absurd (show some (fI x6) = some (.inr (.inl (g ic0))) from e5) (fun h => by cases h)
  have sc0 : σ x9 = .inl (ty0, mc0, .inl gc0) := sc0
  have ec0 : x6 = gc0 ic0 := Sum.inl.inj (Option.some.inj (show some (fI x6) = some _ from e5))
  have kc0 : (ic0 : Int) = (1 * x5.toInt + 0) + 0 := by
    obtain ⟨z, e6, e7⟩ := e4
    obtain rfl : (1 * x5.toInt + 0) = z := Option.some.inj (show some (1 * x5.toInt + 0) = some z from e6)
    exact e7
  clear e1 e4 e5
  obtain rfl : ic0 = x5.toInt.toNat := by omega
  have l0 : 0 ≤ (1 * x6.toInt + (-8 * x2.toInt + (-1 * x7.toInt + 0))) + 0 := by
    obtain ⟨z, e6, e7⟩ := m3 ([(6, 1), (2, -8), (7, -1)], 0) (List.mem_of_getElem? (i := 0) rfl)
    obtain rfl : (1 * x6.toInt + (-8 * x2.toInt + (-1 * x7.toInt + 0))) = z := Option.some.inj (show some (1 * x6.toInt + (-8 * x2.toInt + (-1 * x7.toInt + 0))) = some z from e6)
    exact e7
  have l1 : 0 ≤ (-1 * x6.toInt + (8 * x2.toInt + (1 * x7.toInt + 0))) + 0 := by
    obtain ⟨z, e6, e7⟩ := m3 ([(6, -1), (2, 8), (7, 1)], 0) (List.mem_of_getElem? (i := 1) rfl)
    obtain rfl : (-1 * x6.toInt + (8 * x2.toInt + (1 * x7.toInt + 0))) = z := Option.some.inj (show some (-1 * x6.toInt + (8 * x2.toInt + (1 * x7.toInt + 0))) = some z from e6)
    exact e7
  have l2 : 0 ≤ (1 * x7.toInt + 0) + -1 := by
    obtain ⟨z, e6, e7⟩ := m3 ([(7, 1)], -1) (List.mem_of_getElem? (i := 2) rfl)
    obtain rfl : (1 * x7.toInt + 0) = z := Option.some.inj (show some (1 * x7.toInt + 0) = some z from e6)
    exact e7
  have l3 : 0 ≤ (-1 * x7.toInt + 0) + 1 := by
    obtain ⟨z, e6, e7⟩ := m3 ([(7, -1)], 1) (List.mem_of_getElem? (i := 3) rfl)
    obtain rfl : (-1 * x7.toInt + 0) = z := Option.some.inj (show some (-1 * x7.toInt + 0) = some z from e6)
    exact e7
  have f0 : fB K n p 202 [fR x0, fI x1, fI x2, fI x3, fI x4] σ := by
    obtain ⟨w, e6, e7⟩ := m4 (3237, [0, 1, 2, 3, 4]) (List.mem_of_getElem? (i := 0) rfl)
    obtain rfl : [fR x0, fI x1, fI x2, fI x3, fI x4] = w := Option.some.inj (show some [fR x0, fI x1, fI x2, fI x3, fI x4] = some w from e6)
    exact (fF_b (r := 3237) (by decide) rfl).mp e7
  have f1 : fB K n p 18 [fI x1, fI x3, fI x4, fI x5] σ := by
    obtain ⟨w, e6, e7⟩ := m4 (292, [1, 3, 4, 5]) (List.mem_of_getElem? (i := 1) rfl)
    obtain rfl : [fI x1, fI x3, fI x4, fI x5] = w := Option.some.inj (show some [fI x1, fI x3, fI x4, fI x5] = some w from e6)
    exact (fF_b (r := 292) (by decide) rfl).mp e7
  have f2 : fB K n p 22 [fI x3, fI x8] σ := by
    obtain ⟨w, e6, e7⟩ := m4 (354, [3, 8]) (List.mem_of_getElem? (i := 2) rfl)
    obtain rfl : [fI x3, fI x8] = w := Option.some.inj (show some [fI x3, fI x8] = some w from e6)
    exact (fF_b (r := 354) (by decide) rfl).mp e7
  clear m1 m2 m3 m4
  obtain ⟨b9_0, g0, r9_0, e9_0, w0, y0_0, y0_1, y0_2, y0_3, e8_0, n0, r0, m0⟩ := (fH_o (by decide) (by decide)).mp f0
  cases e9_0
  cases e8_0
  obtain ⟨y1_0, y1_1, y1_2, y1_3, e9_1, h1, i1, t1_⟩ := f1
  cases e9_1
  obtain ⟨y2_0, y2_1, e9_2, h2⟩ := f2
  cases e9_2
  obtain rfl := fMe_c w0 s0 t0 sc0
  have q0 : fB K n (p) 207 [fR x0, fI x1, fI x2, fI x3] σ := by
    refine (fH_o (by decide) (by decide)).mpr ⟨x0, g0, _, rfl, w0, x1, x2, x3, rfl, n0, fun j j1 j2 => ?_⟩
    by_cases hj : j < x3.toInt
    · exact r0 j j1 hj
    · obtain rfl : j = x3.toInt := by omega
      rintro ⟨q, q1, q2, q3, q4, q5⟩
      rcases Int.lt_trichotomy q x4.toInt with hq | hq | hq
      · exact q4 (m0 q q1 hq)
      · rw [hq, ← t1_, ← ec0] at q5
        unfold fHit at q5
        omega
      · have h9 := q3 x4.toInt h1 hq
        rw [← t1_, ← ec0] at h9
        omega
  exact ⟨p, fun _ => rfl, ⟨(fun q h => by cases h), fun q h => (by cases h), (fun f h => by cases h), (aAllc ⟨_, rfl, (fF_b (r := 3316) (by decide) rfl).mpr q0⟩ (fun f h => by cases h))⟩, [], List.mem_cons_self, fun f h => (by cases h)⟩
set_option maxRecDepth 8192 in
theorem rw_ruNC0 {K : Nat → Nat} {n : Nat} : aGho (fF K n) fa_T K n (fJX K n) ag_ruNC0 := by
  refine aGho_of ⟨rfl, rfl⟩ ?_
  intro p σ ρ hH hX hA hM
  have hG := aAG_of hA.1 (fun i e v he hv => (hA.2 i e v he hv).1)
  clear hA
  obtain ⟨v0, v1, v2, v3, v4, v5, v6, v7, v8, rfl, g0, g1, g2, g3, g4, g5, g6, g7, g8⟩ := fA_9 hG
  clear hG
  obtain ⟨x0, rfl, b0, d0⟩ := fG_ref (by decide) g0
  obtain ⟨x1, rfl, b1, d1⟩ := aG_int g1
  dsimp only at b1 d1
  obtain ⟨x2, rfl, b2, d2⟩ := aG_int g2
  dsimp only at b2 d2
  obtain ⟨x3, rfl, b3, d3⟩ := aG_int g3
  dsimp only at b3 d3
  obtain ⟨x4, rfl, b4, d4⟩ := aG_int g4
  dsimp only at b4 d4
  obtain ⟨x5, rfl, b5, d5⟩ := aG_int g5
  dsimp only at b5 d5
  obtain ⟨x6, rfl, b6, d6⟩ := aG_int g6
  dsimp only at b6 d6
  obtain ⟨x7, rfl, b7, d7⟩ := aG_int g7
  dsimp only at b7 d7
  obtain ⟨x8, rfl, b8, d8⟩ := fG_ref (by decide) g8
  obtain ⟨m1, m2, m3, m4⟩ := hM
  obtain ⟨a0, c0, fs0, w0, e1, s0, t0, e4⟩ := m1 (0, 0, 8) (List.mem_of_getElem? (i := 0) rfl)
  obtain rfl : x0 = a0 := Sum.inl.inj (Option.some.inj (Sum.inr.inj (Sum.inr.inj (Option.some.inj (show some (fR x0) = some _ from e1)))))
  obtain rfl : fR x8 = w0 := Option.some.inj (show some (fR x8) = some w0 from e4)
  clear e1 e4
  obtain ⟨a, mc0, ty0, gc0, ic0, e1, sc0, jc0, e4, e5⟩ := m2 (8, ([(5, 1)], 0), 6) (List.mem_of_getElem? (i := 0) rfl)
  obtain rfl : x8 = a := Sum.inl.inj (Option.some.inj (Sum.inr.inj (Sum.inr.inj (Option.some.inj (show some (fR x8) = some _ from e1)))))
  obtain ⟨gc0, rfl⟩ : ∃ g, gc0 = .inl g := by
    rcases gc0 with g | g
    · exact ⟨g, rfl⟩
    · exact absurd (show some (fI x6) = some (.inr (.inl (g ic0))) from e5) (fun h => by cases h)
  have sc0 : σ x8 = .inl (ty0, mc0, .inl gc0) := sc0
  have ec0 : x6 = gc0 ic0 := Sum.inl.inj (Option.some.inj (show some (fI x6) = some _ from e5))
  have kc0 : (ic0 : Int) = (1 * x5.toInt + 0) + 0 := by
    obtain ⟨z, e6, e7⟩ := e4
    obtain rfl : (1 * x5.toInt + 0) = z := Option.some.inj (show some (1 * x5.toInt + 0) = some z from e6)
    exact e7
  clear e1 e4 e5
  obtain rfl : ic0 = x5.toInt.toNat := by omega
  have f0 : fB K n p 202 [fR x0, fI x1, fI x2, fI x3, fI x4] σ := by
    obtain ⟨w, e6, e7⟩ := m4 (3237, [0, 1, 2, 3, 4]) (List.mem_of_getElem? (i := 0) rfl)
    obtain rfl : [fR x0, fI x1, fI x2, fI x3, fI x4] = w := Option.some.inj (show some [fR x0, fI x1, fI x2, fI x3, fI x4] = some w from e6)
    exact (fF_b (r := 3237) (by decide) rfl).mp e7
  have f1 : fB K n p 18 [fI x1, fI x3, fI x4, fI x5] σ := by
    obtain ⟨w, e6, e7⟩ := m4 (292, [1, 3, 4, 5]) (List.mem_of_getElem? (i := 1) rfl)
    obtain rfl : [fI x1, fI x3, fI x4, fI x5] = w := Option.some.inj (show some [fI x1, fI x3, fI x4, fI x5] = some w from e6)
    exact (fF_b (r := 292) (by decide) rfl).mp e7
  clear m1 m2 m3 m4
  obtain ⟨b9_0, g0, r9_0, e9_0, w0, y0_0, y0_1, y0_2, y0_3, e8_0, n0, r0, m0⟩ := (fH_o (by decide) (by decide)).mp f0
  cases e9_0
  cases e8_0
  obtain ⟨y1_0, y1_1, y1_2, y1_3, e9_1, h1, i1, t1_⟩ := f1
  cases e9_1
  obtain rfl := fMe_c w0 s0 t0 sc0
  have q0 : fB K n (p) 207 [fR x0, fI x1, fI x2, fI x3] σ := by
    refine (fH_o (by decide) (by decide)).mpr ⟨x0, g0, _, rfl, w0, x1, x2, x3, rfl, n0, fun j j1 j2 => ?_⟩
    by_cases hj : j < x3.toInt
    · exact r0 j j1 hj
    · obtain rfl : j = x3.toInt := by omega
      rintro ⟨q, q1, q2, q3, q4, q5⟩
      rcases Int.lt_trichotomy q x4.toInt with hq | hq | hq
      · exact q4 (m0 q q1 hq)
      · rw [hq, ← t1_, ← ec0] at q5
        unfold fHit at q5
        omega
      · have h9 := q3 x4.toInt h1 hq
        rw [← t1_, ← ec0] at h9
        omega
  exact ⟨p, fun _ => rfl, ⟨(fun q h => by cases h), fun q h => (by cases h), (fun f h => by cases h), (aAllc ⟨_, rfl, (fF_b (r := 3316) (by decide) rfl).mpr q0⟩ (fun f h => by cases h))⟩, [], List.mem_cons_self, fun f h => (by cases h)⟩
set_option maxRecDepth 8192 in
theorem rw_ruNC1 {K : Nat → Nat} {n : Nat} : aGho (fF K n) fa_T K n (fJX K n) ag_ruNC1 := by
  refine aGho_of ⟨rfl, rfl⟩ ?_
  intro p σ ρ hH hX hA hM
  have hG := aAG_of hA.1 (fun i e v he hv => (hA.2 i e v he hv).1)
  clear hA
  obtain ⟨v0, v1, v2, v3, v4, v5, v6, v7, v8, rfl, g0, g1, g2, g3, g4, g5, g6, g7, g8⟩ := fA_9 hG
  clear hG
  obtain ⟨x0, rfl, b0, d0⟩ := fG_ref (by decide) g0
  obtain ⟨x1, rfl, b1, d1⟩ := aG_int g1
  dsimp only at b1 d1
  obtain ⟨x2, rfl, b2, d2⟩ := aG_int g2
  dsimp only at b2 d2
  obtain ⟨x3, rfl, b3, d3⟩ := aG_int g3
  dsimp only at b3 d3
  obtain ⟨x4, rfl, b4, d4⟩ := aG_int g4
  dsimp only at b4 d4
  obtain ⟨x5, rfl, b5, d5⟩ := aG_int g5
  dsimp only at b5 d5
  obtain ⟨x6, rfl, b6, d6⟩ := aG_int g6
  dsimp only at b6 d6
  obtain ⟨x7, rfl, b7, d7⟩ := aG_int g7
  dsimp only at b7 d7
  obtain ⟨x8, rfl, b8, d8⟩ := fG_ref (by decide) g8
  obtain ⟨m1, m2, m3, m4⟩ := hM
  obtain ⟨a0, c0, fs0, w0, e1, s0, t0, e4⟩ := m1 (0, 0, 8) (List.mem_of_getElem? (i := 0) rfl)
  obtain rfl : x0 = a0 := Sum.inl.inj (Option.some.inj (Sum.inr.inj (Sum.inr.inj (Option.some.inj (show some (fR x0) = some _ from e1)))))
  obtain rfl : fR x8 = w0 := Option.some.inj (show some (fR x8) = some w0 from e4)
  clear e1 e4
  obtain ⟨a, mc0, ty0, gc0, ic0, e1, sc0, jc0, e4, e5⟩ := m2 (8, ([(5, 1)], 0), 6) (List.mem_of_getElem? (i := 0) rfl)
  obtain rfl : x8 = a := Sum.inl.inj (Option.some.inj (Sum.inr.inj (Sum.inr.inj (Option.some.inj (show some (fR x8) = some _ from e1)))))
  obtain ⟨gc0, rfl⟩ : ∃ g, gc0 = .inl g := by
    rcases gc0 with g | g
    · exact ⟨g, rfl⟩
    · exact absurd (show some (fI x6) = some (.inr (.inl (g ic0))) from e5) (fun h => by cases h)
  have sc0 : σ x8 = .inl (ty0, mc0, .inl gc0) := sc0
  have ec0 : x6 = gc0 ic0 := Sum.inl.inj (Option.some.inj (show some (fI x6) = some _ from e5))
  have kc0 : (ic0 : Int) = (1 * x5.toInt + 0) + 0 := by
    obtain ⟨z, e6, e7⟩ := e4
    obtain rfl : (1 * x5.toInt + 0) = z := Option.some.inj (show some (1 * x5.toInt + 0) = some z from e6)
    exact e7
  clear e1 e4 e5
  obtain rfl : ic0 = x5.toInt.toNat := by omega
  have f0 : fB K n p 202 [fR x0, fI x1, fI x2, fI x3, fI x4] σ := by
    obtain ⟨w, e6, e7⟩ := m4 (3237, [0, 1, 2, 3, 4]) (List.mem_of_getElem? (i := 0) rfl)
    obtain rfl : [fR x0, fI x1, fI x2, fI x3, fI x4] = w := Option.some.inj (show some [fR x0, fI x1, fI x2, fI x3, fI x4] = some w from e6)
    exact (fF_b (r := 3237) (by decide) rfl).mp e7
  have f1 : fB K n p 18 [fI x1, fI x3, fI x4, fI x5] σ := by
    obtain ⟨w, e6, e7⟩ := m4 (292, [1, 3, 4, 5]) (List.mem_of_getElem? (i := 1) rfl)
    obtain rfl : [fI x1, fI x3, fI x4, fI x5] = w := Option.some.inj (show some [fI x1, fI x3, fI x4, fI x5] = some w from e6)
    exact (fF_b (r := 292) (by decide) rfl).mp e7
  clear m1 m2 m3 m4
  obtain ⟨b9_0, g0, r9_0, e9_0, w0, y0_0, y0_1, y0_2, y0_3, e8_0, n0, r0, m0⟩ := (fH_o (by decide) (by decide)).mp f0
  cases e9_0
  cases e8_0
  obtain ⟨y1_0, y1_1, y1_2, y1_3, e9_1, h1, i1, t1_⟩ := f1
  cases e9_1
  obtain rfl := fMe_c w0 s0 t0 sc0
  have q0 : fB K n (p) 207 [fR x0, fI x1, fI x2, fI x3] σ := by
    refine (fH_o (by decide) (by decide)).mpr ⟨x0, g0, _, rfl, w0, x1, x2, x3, rfl, n0, fun j j1 j2 => ?_⟩
    by_cases hj : j < x3.toInt
    · exact r0 j j1 hj
    · obtain rfl : j = x3.toInt := by omega
      rintro ⟨q, q1, q2, q3, q4, q5⟩
      rcases Int.lt_trichotomy q x4.toInt with hq | hq | hq
      · exact q4 (m0 q q1 hq)
      · rw [hq, ← t1_, ← ec0] at q5
        unfold fHit at q5
        omega
      · have h9 := q3 x4.toInt h1 hq
        rw [← t1_, ← ec0] at h9
        omega
  exact ⟨p, fun _ => rfl, ⟨(fun q h => by cases h), fun q h => (by cases h), (fun f h => by cases h), (aAllc ⟨_, rfl, (fF_b (r := 3316) (by decide) rfl).mpr q0⟩ (fun f h => by cases h))⟩, [], List.mem_cons_self, fun f h => (by cases h)⟩
set_option maxRecDepth 8192 in
theorem rw_ruTRI {K : Nat → Nat} {n : Nat} : aGho (fF K n) fa_T K n (fJX K n) ag_ruTRI := by
  refine aGho_of ⟨rfl, rfl⟩ ?_
  intro p σ ρ hH hX hA hM
  have hG := aAG_of hA.1 (fun i e v he hv => (hA.2 i e v he hv).1)
  clear hA
  obtain ⟨v0, v1, rfl, g0, g1⟩ := fA_2 hG
  clear hG
  obtain ⟨x0, rfl, b0, d0⟩ := aG_int g0
  dsimp only at b0 d0
  obtain ⟨x1, rfl, b1, d1⟩ := aG_int g1
  dsimp only at b1 d1
  obtain ⟨m1, m2, m3, m4⟩ := hM
  clear m1 m2 m3 m4
  rcases Int.lt_trichotomy x0.toInt x1.toInt with hh | hh | hh
  · exact ⟨p, fun _ => rfl, ⟨(fun q h => by cases h), fun q h => (by cases h), (fun f h => by cases h), (fun f h => by cases h)⟩, _, List.mem_of_getElem? (i := 0) rfl, (aAllc ⟨_, rfl, (show 0 ≤ (-1 * x0.toInt + (1 * x1.toInt + 0)) + -1 by omega)⟩ (fun f h => by cases h))⟩
  · exact ⟨p, fun _ => rfl, ⟨(fun q h => by cases h), fun q h => (by cases h), (fun f h => by cases h), (fun f h => by cases h)⟩, _, List.mem_of_getElem? (i := 1) rfl, (aAllc ⟨_, rfl, (show 0 ≤ (1 * x0.toInt + (-1 * x1.toInt + 0)) + 0 by omega)⟩ (aAllc ⟨_, rfl, (show 0 ≤ (-1 * x0.toInt + (1 * x1.toInt + 0)) + 0 by omega)⟩ (fun f h => by cases h)))⟩
  · exact ⟨p, fun _ => rfl, ⟨(fun q h => by cases h), fun q h => (by cases h), (fun f h => by cases h), (fun f h => by cases h)⟩, _, List.mem_of_getElem? (i := 2) rfl, (aAllc ⟨_, rfl, (show 0 ≤ (1 * x0.toInt + (-1 * x1.toInt + 0)) + -1 by omega)⟩ (fun f h => by cases h))⟩

