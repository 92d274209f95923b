/-! exact rules, lists: their proofs -/
set_option maxRecDepth 8192 in
theorem rw_ruEN0 {K : Nat → Nat} {n : Nat} : aGho (fF K n) fa_T K n (fJX K n) ag_ruEN0 := by
  refine aGho_of ⟨rfl, rfl⟩ ?_
  intro p σ ρ hH hX hA hM
  have hG := aAG_of hA.1 (fun i e v he hv => (hA.2 i e v he hv).1)
  clear hA
  obtain ⟨v0, v1, v2, v3, rfl, g0, g1, g2, g3⟩ := fA_4 hG
  clear hG
  obtain ⟨x0, rfl, b0, d0⟩ := fG_ref (by decide) g0
  obtain ⟨x1, rfl, b1, d1⟩ := aG_int g1
  dsimp only at b1 d1
  obtain ⟨x2, rfl, b2, d2⟩ := aG_int g2
  dsimp only at b2 d2
  obtain ⟨x3, rfl, b3, d3⟩ := fG_ref (by decide) g3
  obtain ⟨m1, m2, m3, m4⟩ := hM
  obtain ⟨a0, c0, fs0, w0, e1, s0, t0, e4⟩ := m1 (0, 0, 3) (List.mem_of_getElem? (i := 0) rfl)
  obtain rfl : x0 = a0 := Sum.inl.inj (Option.some.inj (Sum.inr.inj (Sum.inr.inj (Option.some.inj (show some (fR x0) = some _ from e1)))))
  obtain rfl : fR x3 = w0 := Option.some.inj (show some (fR x3) = some w0 from e4)
  clear e1 e4
  obtain ⟨a, mc0, ty0, gc0, ic0, e1, sc0, jc0, e4, e5⟩ := m2 (3, ([(1, 1)], 0), 2) (List.mem_of_getElem? (i := 0) rfl)
  obtain rfl : x3 = a := Sum.inl.inj (Option.some.inj (Sum.inr.inj (Sum.inr.inj (Option.some.inj (show some (fR x3) = some _ from e1)))))
  obtain ⟨gc0, rfl⟩ : ∃ g, gc0 = .inl g := by
    rcases gc0 with g | g
    · exact ⟨g, rfl⟩
    · exact absurd (show some (fI x2) = some (.inr (.inl (g ic0))) from e5) (fun h => by cases h)
  have sc0 : σ x3 = .inl (ty0, mc0, .inl gc0) := sc0
  have ec0 : x2 = gc0 ic0 := Sum.inl.inj (Option.some.inj (show some (fI x2) = some _ from e5))
  have kc0 : (ic0 : Int) = (1 * x1.toInt + 0) + 0 := by
    obtain ⟨z, e6, e7⟩ := e4
    obtain rfl : (1 * x1.toInt + 0) = z := Option.some.inj (show some (1 * x1.toInt + 0) = some z from e6)
    exact e7
  clear e1 e4 e5
  obtain rfl : ic0 = x1.toInt.toNat := by omega
  have f0 : fB K n p 1 [fR x0] σ := by
    obtain ⟨w, e6, e7⟩ := m4 (17, [0]) (List.mem_of_getElem? (i := 0) rfl)
    obtain rfl : [fR x0] = w := Option.some.inj (show some [fR x0] = some w from e6)
    exact (fF_b (r := 17) (by decide) rfl).mp e7
  clear m1 m2 m3 m4
  obtain ⟨a9_0, e9_0, h0, g0⟩ := f0
  cases e9_0
  have hF := fAt_of h0 s0
  obtain ⟨gB, hr1, hr2⟩ := hF.1 x3 t0
  rw [hr1] at sc0
  cases sc0
  have q0 : fB K n (p) 48 [fI x1] σ := by
    refine (fE_o (by decide)).mpr ⟨x1, rfl, Or.inl ?_⟩
    rw [← hr2 _ (by omega), ← ec0]
    omega
  exact ⟨p, fun _ => rfl, ⟨(fun q h => by cases h), fun q h => (by cases h), (fun f h => by cases h), (aAllc ⟨_, rfl, (fF_b (r := 769) (by decide) rfl).mpr q0⟩ (fun f h => by cases h))⟩, [], List.mem_cons_self, fun f h => (by cases h)⟩
set_option maxRecDepth 8192 in
theorem rw_ruENa {K : Nat → Nat} {n : Nat} : aGho (fF K n) fa_T K n (fJX K n) ag_ruENa := by
  refine aGho_of ⟨rfl, rfl⟩ ?_
  intro p σ ρ hH hX hA hM
  have hG := aAG_of hA.1 (fun i e v he hv => (hA.2 i e v he hv).1)
  clear hA
  obtain ⟨v0, v1, v2, v3, v4, rfl, g0, g1, g2, g3, g4⟩ := fA_5 hG
  clear hG
  obtain ⟨x0, rfl, b0, d0⟩ := fG_ref (by decide) g0
  obtain ⟨x1, rfl, b1, d1⟩ := aG_int g1
  dsimp only at b1 d1
  obtain ⟨x2, rfl, b2, d2⟩ := aG_int g2
  dsimp only at b2 d2
  obtain ⟨x3, rfl, b3, d3⟩ := fG_ref (by decide) g3
  obtain ⟨x4, rfl, b4, d4⟩ := aG_int g4
  dsimp only at b4 d4
  obtain ⟨m1, m2, m3, m4⟩ := hM
  obtain ⟨a0, c0, fs0, w0, e1, s0, t0, e4⟩ := m1 (0, 0, 3) (List.mem_of_getElem? (i := 0) rfl)
  obtain rfl : x0 = a0 := Sum.inl.inj (Option.some.inj (Sum.inr.inj (Sum.inr.inj (Option.some.inj (show some (fR x0) = some _ from e1)))))
  obtain rfl : fR x3 = w0 := Option.some.inj (show some (fR x3) = some w0 from e4)
  clear e1 e4
  obtain ⟨a1, c1, fs1, w1, e1, s1, t1, e4⟩ := m1 (0, 2, 4) (List.mem_of_getElem? (i := 1) rfl)
  obtain rfl : x0 = a1 := Sum.inl.inj (Option.some.inj (Sum.inr.inj (Sum.inr.inj (Option.some.inj (show some (fR x0) = some _ from e1)))))
  obtain rfl : fI x4 = w1 := Option.some.inj (show some (fI x4) = some w1 from e4)
  clear e1 e4
  obtain ⟨a, mc0, ty0, gc0, ic0, e1, sc0, jc0, e4, e5⟩ := m2 (3, ([(1, 1)], 0), 2) (List.mem_of_getElem? (i := 0) rfl)
  obtain rfl : x3 = a := Sum.inl.inj (Option.some.inj (Sum.inr.inj (Sum.inr.inj (Option.some.inj (show some (fR x3) = some _ from e1)))))
  obtain ⟨gc0, rfl⟩ : ∃ g, gc0 = .inl g := by
    rcases gc0 with g | g
    · exact ⟨g, rfl⟩
    · exact absurd (show some (fI x2) = some (.inr (.inl (g ic0))) from e5) (fun h => by cases h)
  have sc0 : σ x3 = .inl (ty0, mc0, .inl gc0) := sc0
  have ec0 : x2 = gc0 ic0 := Sum.inl.inj (Option.some.inj (show some (fI x2) = some _ from e5))
  have kc0 : (ic0 : Int) = (1 * x1.toInt + 0) + 0 := by
    obtain ⟨z, e6, e7⟩ := e4
    obtain rfl : (1 * x1.toInt + 0) = z := Option.some.inj (show some (1 * x1.toInt + 0) = some z from e6)
    exact e7
  clear e1 e4 e5
  obtain rfl : ic0 = x1.toInt.toNat := by omega
  have f0 : fB K n p 1 [fR x0] σ := by
    obtain ⟨w, e6, e7⟩ := m4 (17, [0]) (List.mem_of_getElem? (i := 0) rfl)
    obtain rfl : [fR x0] = w := Option.some.inj (show some [fR x0] = some w from e6)
    exact (fF_b (r := 17) (by decide) rfl).mp e7
  clear m1 m2 m3 m4
  obtain ⟨a9_0, e9_0, h0, g0⟩ := f0
  cases e9_0
  have hF := fAt_of h0 s0
  obtain ⟨gB, hr1, hr2⟩ := hF.1 x3 t0
  rw [hr1] at sc0
  cases sc0
  have hsd := hF.2.1 x4 (by rw [s0] at s1; cases s1; exact t1)
  have q0 : fB K n (p) 48 [fI x1] σ := by
    refine (fE_o (by decide)).mpr ⟨x1, rfl, Or.inr ?_⟩
    rw [← hr2 _ (by omega), ← ec0, ← hsd]
    omega
  exact ⟨p, fun _ => rfl, ⟨(fun q h => by cases h), fun q h => (by cases h), (fun f h => by cases h), (aAllc ⟨_, rfl, (fF_b (r := 769) (by decide) rfl).mpr q0⟩ (fun f h => by cases h))⟩, [], List.mem_cons_self, fun f h => (by cases h)⟩
set_option maxRecDepth 8192 in
theorem rw_ruOSa {K : Nat → Nat} {n : Nat} : aGho (fF K n) fa_T K n (fJX K n) ag_ruOSa := by
  refine aGho_of ⟨rfl, rfl⟩ ?_
  intro p σ ρ hH hX hA hM
  have hG := aAG_of hA.1 (fun i e v he hv => (hA.2 i e v he hv).1)
  clear hA
  obtain ⟨v0, v1, v2, v3, v4, rfl, g0, g1, g2, g3, g4⟩ := fA_5 hG
  clear hG
  obtain ⟨x0, rfl, b0, d0⟩ := fG_ref (by decide) g0
  obtain ⟨x1, rfl, b1, d1⟩ := aG_int g1
  dsimp only at b1 d1
  obtain ⟨x2, rfl, b2, d2⟩ := aG_int g2
  dsimp only at b2 d2
  obtain ⟨x3, rfl, b3, d3⟩ := fG_ref (by decide) g3
  obtain ⟨x4, rfl, b4, d4⟩ := aG_int g4
  dsimp only at b4 d4
  obtain ⟨m1, m2, m3, m4⟩ := hM
  obtain ⟨a0, c0, fs0, w0, e1, s0, t0, e4⟩ := m1 (0, 0, 3) (List.mem_of_getElem? (i := 0) rfl)
  obtain rfl : x0 = a0 := Sum.inl.inj (Option.some.inj (Sum.inr.inj (Sum.inr.inj (Option.some.inj (show some (fR x0) = some _ from e1)))))
  obtain rfl : fR x3 = w0 := Option.some.inj (show some (fR x3) = some w0 from e4)
  clear e1 e4
  obtain ⟨a1, c1, fs1, w1, e1, s1, t1, e4⟩ := m1 (0, 2, 4) (List.mem_of_getElem? (i := 1) rfl)
  obtain rfl : x0 = a1 := Sum.inl.inj (Option.some.inj (Sum.inr.inj (Sum.inr.inj (Option.some.inj (show some (fR x0) = some _ from e1)))))
  obtain rfl : fI x4 = w1 := Option.some.inj (show some (fI x4) = some w1 from e4)
  clear e1 e4
  obtain ⟨a, mc0, ty0, gc0, ic0, e1, sc0, jc0, e4, e5⟩ := m2 (3, ([(1, 1)], 0), 2) (List.mem_of_getElem? (i := 0) rfl)
  obtain rfl : x3 = a := Sum.inl.inj (Option.some.inj (Sum.inr.inj (Sum.inr.inj (Option.some.inj (show some (fR x3) = some _ from e1)))))
  obtain ⟨gc0, rfl⟩ : ∃ g, gc0 = .inl g := by
    rcases gc0 with g | g
    · exact ⟨g, rfl⟩
    · exact absurd (show some (fI x2) = some (.inr (.inl (g ic0))) from e5) (fun h => by cases h)
  have sc0 : σ x3 = .inl (ty0, mc0, .inl gc0) := sc0
  have ec0 : x2 = gc0 ic0 := Sum.inl.inj (Option.some.inj (show some (fI x2) = some _ from e5))
  have kc0 : (ic0 : Int) = (1 * x1.toInt + 0) + 0 := by
    obtain ⟨z, e6, e7⟩ := e4
    obtain rfl : (1 * x1.toInt + 0) = z := Option.some.inj (show some (1 * x1.toInt + 0) = some z from e6)
    exact e7
  clear e1 e4 e5
  obtain rfl : ic0 = x1.toInt.toNat := by omega
  have f0 : fB K n p 1 [fR x0] σ := by
    obtain ⟨w, e6, e7⟩ := m4 (17, [0]) (List.mem_of_getElem? (i := 0) rfl)
    obtain rfl : [fR x0] = w := Option.some.inj (show some [fR x0] = some w from e6)
    exact (fF_b (r := 17) (by decide) rfl).mp e7
  clear m1 m2 m3 m4
  obtain ⟨a9_0, e9_0, h0, g0⟩ := f0
  cases e9_0
  have hF := fAt_of h0 s0
  obtain ⟨gB, hr1, hr2⟩ := hF.1 x3 t0
  rw [hr1] at sc0
  cases sc0
  have hsd := hF.2.1 x4 (by rw [s0] at s1; cases s1; exact t1)
  have q0 : fB K n (p) 49 [fI x1] σ := by
    refine (fE_o (by decide)).mpr ⟨x1, rfl, ?_⟩
    unfold fOn
    rw [← hr2 _ (by omega), ← ec0, ← hsd]
    omega
  exact ⟨p, fun _ => rfl, ⟨(fun q h => by cases h), fun q h => (by cases h), (fun f h => by cases h), (aAllc ⟨_, rfl, (fF_b (r := 785) (by decide) rfl).mpr q0⟩ (fun f h => by cases h))⟩, [], List.mem_cons_self, fun f h => (by cases h)⟩
set_option maxRecDepth 8192 in
theorem rw_ruENb {K : Nat → Nat} {n : Nat} : aGho (fF K n) fa_T K n (fJX K n) ag_ruENb := by
  refine aGho_of ⟨rfl, rfl⟩ ?_
  intro p σ ρ hH hX hA hM
  have hG := aAG_of hA.1 (fun i e v he hv => (hA.2 i e v he hv).1)
  clear hA
  obtain ⟨v0, v1, v2, v3, v4, rfl, g0, g1, g2, g3, g4⟩ := fA_5 hG
  clear hG
  obtain ⟨x0, rfl, b0, d0⟩ := fG_ref (by decide) g0
  obtain ⟨x1, rfl, b1, d1⟩ := aG_int g1
  dsimp only at b1 d1
  obtain ⟨x2, rfl, b2, d2⟩ := aG_int g2
  dsimp only at b2 d2
  obtain ⟨x3, rfl, b3, d3⟩ := fG_ref (by decide) g3
  obtain ⟨x4, rfl, b4, d4⟩ := aG_int g4
  dsimp only at b4 d4
  obtain ⟨m1, m2, m3, m4⟩ := hM
  obtain ⟨a0, c0, fs0, w0, e1, s0, t0, e4⟩ := m1 (0, 0, 3) (List.mem_of_getElem? (i := 0) rfl)
  obtain rfl : x0 = a0 := Sum.inl.inj (Option.some.inj (Sum.inr.inj (Sum.inr.inj (Option.some.inj (show some (fR x0) = some _ from e1)))))
  obtain rfl : fR x3 = w0 := Option.some.inj (show some (fR x3) = some w0 from e4)
  clear e1 e4
  obtain ⟨a1, c1, fs1, w1, e1, s1, t1, e4⟩ := m1 (0, 2, 4) (List.mem_of_getElem? (i := 1) rfl)
  obtain rfl : x0 = a1 := Sum.inl.inj (Option.some.inj (Sum.inr.inj (Sum.inr.inj (Option.some.inj (show some (fR x0) = some _ from e1)))))
  obtain rfl : fI x4 = w1 := Option.some.inj (show some (fI x4) = some w1 from e4)
  clear e1 e4
  obtain ⟨a, mc0, ty0, gc0, ic0, e1, sc0, jc0, e4, e5⟩ := m2 (3, ([(1, 1)], 0), 2) (List.mem_of_getElem? (i := 0) rfl)
  obtain rfl : x3 = a := Sum.inl.inj (Option.some.inj (Sum.inr.inj (Sum.inr.inj (Option.some.inj (show some (fR x3) = some _ from e1)))))
  obtain ⟨gc0, rfl⟩ : ∃ g, gc0 = .inl g := by
    rcases gc0 with g | g
    · exact ⟨g, rfl⟩
    · exact absurd (show some (fI x2) = some (.inr (.inl (g ic0))) from e5) (fun h => by cases h)
  have sc0 : σ x3 = .inl (ty0, mc0, .inl gc0) := sc0
  have ec0 : x2 = gc0 ic0 := Sum.inl.inj (Option.some.inj (show some (fI x2) = some _ from e5))
  have kc0 : (ic0 : Int) = (1 * x1.toInt + 0) + 0 := by
    obtain ⟨z, e6, e7⟩ := e4
    obtain rfl : (1 * x1.toInt + 0) = z := Option.some.inj (show some (1 * x1.toInt + 0) = some z from e6)
    exact e7
  clear e1 e4 e5
  obtain rfl : ic0 = x1.toInt.toNat := by omega
  have f0 : fB K n p 1 [fR x0] σ := by
    obtain ⟨w, e6, e7⟩ := m4 (17, [0]) (List.mem_of_getElem? (i := 0) rfl)
    obtain rfl : [fR x0] = w := Option.some.inj (show some [fR x0] = some w from e6)
    exact (fF_b (r := 17) (by decide) rfl).mp e7
  clear m1 m2 m3 m4
  obtain ⟨a9_0, e9_0, h0, g0⟩ := f0
  cases e9_0
  have hF := fAt_of h0 s0
  obtain ⟨gB, hr1, hr2⟩ := hF.1 x3 t0
  rw [hr1] at sc0
  cases sc0
  have hsd := hF.2.1 x4 (by rw [s0] at s1; cases s1; exact t1)
  have q0 : fB K n (p) 48 [fI x1] σ := by
    refine (fE_o (by decide)).mpr ⟨x1, rfl, Or.inr ?_⟩
    rw [← hr2 _ (by omega), ← ec0, ← hsd]
    omega
  exact ⟨p, fun _ => rfl, ⟨(fun q h => by cases h), fun q h => (by cases h), (fun f h => by cases h), (aAllc ⟨_, rfl, (fF_b (r := 769) (by decide) rfl).mpr q0⟩ (fun f h => by cases h))⟩, [], List.mem_cons_self, fun f h => (by cases h)⟩
set_option maxRecDepth 8192 in
theorem rw_ruOSb {K : Nat → Nat} {n : Nat} : aGho (fF K n) fa_T K n (fJX K n) ag_ruOSb := by
  refine aGho_of ⟨rfl, rfl⟩ ?_
  intro p σ ρ hH hX hA hM
  have hG := aAG_of hA.1 (fun i e v he hv => (hA.2 i e v he hv).1)
  clear hA
  obtain ⟨v0, v1, v2, v3, v4, rfl, g0, g1, g2, g3, g4⟩ := fA_5 hG
  clear hG
  obtain ⟨x0, rfl, b0, d0⟩ := fG_ref (by decide) g0
  obtain ⟨x1, rfl, b1, d1⟩ := aG_int g1
  dsimp only at b1 d1
  obtain ⟨x2, rfl, b2, d2⟩ := aG_int g2
  dsimp only at b2 d2
  obtain ⟨x3, rfl, b3, d3⟩ := fG_ref (by decide) g3
  obtain ⟨x4, rfl, b4, d4⟩ := aG_int g4
  dsimp only at b4 d4
  obtain ⟨m1, m2, m3, m4⟩ := hM
  obtain ⟨a0, c0, fs0, w0, e1, s0, t0, e4⟩ := m1 (0, 0, 3) (List.mem_of_getElem? (i := 0) rfl)
  obtain rfl : x0 = a0 := Sum.inl.inj (Option.some.inj (Sum.inr.inj (Sum.inr.inj (Option.some.inj (show some (fR x0) = some _ from e1)))))
  obtain rfl : fR x3 = w0 := Option.some.inj (show some (fR x3) = some w0 from e4)
  clear e1 e4
  obtain ⟨a1, c1, fs1, w1, e1, s1, t1, e4⟩ := m1 (0, 2, 4) (List.mem_of_getElem? (i := 1) rfl)
  obtain rfl : x0 = a1 := Sum.inl.inj (Option.some.inj (Sum.inr.inj (Sum.inr.inj (Option.some.inj (show some (fR x0) = some _ from e1)))))
  obtain rfl : fI x4 = w1 := Option.some.inj (show some (fI x4) = some w1 from e4)
  clear e1 e4
  obtain ⟨a, mc0, ty0, gc0, ic0, e1, sc0, jc0, e4, e5⟩ := m2 (3, ([(1, 1)], 0), 2) (List.mem_of_getElem? (i := 0) rfl)
  obtain rfl : x3 = a := Sum.inl.inj (Option.some.inj (Sum.inr.inj (Sum.inr.inj (Option.some.inj (show some (fR x3) = some _ from e1)))))
  obtain ⟨gc0, rfl⟩ : ∃ g, gc0 = .inl g := by
    rcases gc0 with g | g
    · exact ⟨g, rfl⟩
    · exact absurd (show some (fI x2) = some (.inr (.inl (g ic0))) from e5) (fun h => by cases h)
  have sc0 : σ x3 = .inl (ty0, mc0, .inl gc0) := sc0
  have ec0 : x2 = gc0 ic0 := Sum.inl.inj (Option.some.inj (show some (fI x2) = some _ from e5))
  have kc0 : (ic0 : Int) = (1 * x1.toInt + 0) + 0 := by
    obtain ⟨z, e6, e7⟩ := e4
    obtain rfl : (1 * x1.toInt + 0) = z := Option.some.inj (show some (1 * x1.toInt + 0) = some z from e6)
    exact e7
  clear e1 e4 e5
  obtain rfl : ic0 = x1.toInt.toNat := by omega
  have f0 : fB K n p 1 [fR x0] σ := by
    obtain ⟨w, e6, e7⟩ := m4 (17, [0]) (List.mem_of_getElem? (i := 0) rfl)
    obtain rfl : [fR x0] = w := Option.some.inj (show some [fR x0] = some w from e6)
    exact (fF_b (r := 17) (by decide) rfl).mp e7
  clear m1 m2 m3 m4
  obtain ⟨a9_0, e9_0, h0, g0⟩ := f0
  cases e9_0
  have hF := fAt_of h0 s0
  obtain ⟨gB, hr1, hr2⟩ := hF.1 x3 t0
  rw [hr1] at sc0
  cases sc0
  have hsd := hF.2.1 x4 (by rw [s0] at s1; cases s1; exact t1)
  have q0 : fB K n (p) 49 [fI x1] σ := by
    refine (fE_o (by decide)).mpr ⟨x1, rfl, ?_⟩
    unfold fOn
    rw [← hr2 _ (by omega), ← ec0, ← hsd]
    omega
  exact ⟨p, fun _ => rfl, ⟨(fun q h => by cases h), fun q h => (by cases h), (fun f h => by cases h), (aAllc ⟨_, rfl, (fF_b (r := 785) (by decide) rfl).mpr q0⟩ (fun f h => by cases h))⟩, [], List.mem_cons_self, fun f h => (by cases h)⟩
set_option maxRecDepth 8192 in
theorem rw_ruKTO {K : Nat → Nat} {n : Nat} : aGho (fF K n) fa_T K n (fJX K n) ag_ruKTO := by
  refine aGho_of ⟨rfl, rfl⟩ ?_
  intro p σ ρ hH hX hA hM
  have hG := aAG_of hA.1 (fun i e v he hv => (hA.2 i e v he hv).1)
  clear hA
  obtain ⟨v0, v1, v2, v3, v4, rfl, g0, g1, g2, g3, g4⟩ := fA_5 hG
  clear hG
  obtain ⟨x0, rfl, b0, d0⟩ := aG_int g0
  dsimp only at b0 d0
  obtain ⟨x1, rfl, b1, d1⟩ := aG_int g1
  dsimp only at b1 d1
  obtain ⟨x2, rfl, b2, d2⟩ := aG_int g2
  dsimp only at b2 d2
  obtain ⟨x3, rfl, b3, d3⟩ := aG_int g3
  dsimp only at b3 d3
  obtain ⟨x4, rfl, b4, d4⟩ := aG_int g4
  dsimp only at b4 d4
  obtain ⟨m1, m2, m3, m4⟩ := hM
  have l0 : 0 ≤ (1 * x4.toInt + (-1 * x0.toInt + (-1 * x3.toInt + 0))) + 0 := by
    obtain ⟨z, e6, e7⟩ := m3 ([(4, 1), (0, -1), (3, -1)], 0) (List.mem_of_getElem? (i := 0) rfl)
    obtain rfl : (1 * x4.toInt + (-1 * x0.toInt + (-1 * x3.toInt + 0))) = z := Option.some.inj (show some (1 * x4.toInt + (-1 * x0.toInt + (-1 * x3.toInt + 0))) = some z from e6)
    exact e7
  have l1 : 0 ≤ (-1 * x4.toInt + (1 * x0.toInt + (1 * x3.toInt + 0))) + 0 := by
    obtain ⟨z, e6, e7⟩ := m3 ([(4, -1), (0, 1), (3, 1)], 0) (List.mem_of_getElem? (i := 1) rfl)
    obtain rfl : (-1 * x4.toInt + (1 * x0.toInt + (1 * x3.toInt + 0))) = z := Option.some.inj (show some (-1 * x4.toInt + (1 * x0.toInt + (1 * x3.toInt + 0))) = some z from e6)
    exact e7
  have f0 : fB K n p 19 [fI x0, fI x1, fI x2] σ := by
    obtain ⟨w, e6, e7⟩ := m4 (307, [0, 1, 2]) (List.mem_of_getElem? (i := 0) rfl)
    obtain rfl : [fI x0, fI x1, fI x2] = w := Option.some.inj (show some [fI x0, fI x1, fI x2] = some w from e6)
    exact (fF_b (r := 307) (by decide) rfl).mp e7
  have f1 : fB K n p 22 [fI x1, fI x3] σ := by
    obtain ⟨w, e6, e7⟩ := m4 (354, [1, 3]) (List.mem_of_getElem? (i := 1) rfl)
    obtain rfl : [fI x1, fI x3] = w := Option.some.inj (show some [fI x1, fI x3] = some w from e6)
    exact (fF_b (r := 354) (by decide) rfl).mp e7
  clear m1 m2 m3 m4
  obtain ⟨y0_0, y0_1, y0_2, e9_0, h0⟩ := f0
  cases e9_0
  obtain ⟨y1_0, y1_1, e9_1, h1⟩ := f1
  cases e9_1
  have q0 : fB K n (p) 50 [fI x0, fI x1, fI x4] σ := by
    refine (fE_o (by decide)).mpr ⟨x0, x1, x4, rfl, by omega, by omega⟩
  exact ⟨p, fun _ => rfl, ⟨(fun q h => by cases h), fun q h => (by cases h), (fun f h => by cases h), (aAllc ⟨_, rfl, (fF_b (r := 803) (by decide) rfl).mpr q0⟩ (fun f h => by cases h))⟩, [], List.mem_cons_self, fun f h => (by cases h)⟩
set_option maxRecDepth 8192 in
theorem rw_ruD3 {K : Nat → Nat} {n : Nat} : aGho (fF K n) fa_T K n (fJX K n) ag_ruD3 := by
  refine aGho_of ⟨rfl, rfl⟩ ?_
  intro p σ ρ hH hX hA hM
  have hG := aAG_of hA.1 (fun i e v he hv => (hA.2 i e v he hv).1)
  clear hA
  obtain ⟨v0, v1, v2, v3, rfl, g0, g1, g2, g3⟩ := fA_4 hG
  clear hG
  obtain ⟨x0, rfl, b0, d0⟩ := fG_ref (by decide) g0
  obtain ⟨x1, rfl, b1, d1⟩ := aG_int g1
  dsimp only at b1 d1
  obtain ⟨x2, rfl, b2, d2⟩ := aG_int g2
  dsimp only at b2 d2
  obtain ⟨x3, rfl, b3, d3⟩ := fG_ref (by decide) g3
  obtain ⟨m1, m2, m3, m4⟩ := hM
  obtain ⟨a0, c0, fs0, w0, e1, s0, t0, e4⟩ := m1 (0, 0, 3) (List.mem_of_getElem? (i := 0) rfl)
  obtain rfl : x0 = a0 := Sum.inl.inj (Option.some.inj (Sum.inr.inj (Sum.inr.inj (Option.some.inj (show some (fR x0) = some _ from e1)))))
  obtain rfl : fR x3 = w0 := Option.some.inj (show some (fR x3) = some w0 from e4)
  clear e1 e4
  obtain ⟨a, mc0, ty0, gc0, ic0, e1, sc0, jc0, e4, e5⟩ := m2 (3, ([(1, 1)], -3), 2) (List.mem_of_getElem? (i := 0) rfl)
  obtain rfl : x3 = a := Sum.inl.inj (Option.some.inj (Sum.inr.inj (Sum.inr.inj (Option.some.inj (show some (fR x3) = some _ from e1)))))
  obtain ⟨gc0, rfl⟩ : ∃ g, gc0 = .inl g := by
    rcases gc0 with g | g
    · exact ⟨g, rfl⟩
    · exact absurd (show some (fI x2) = some (.inr (.inl (g ic0))) from e5) (fun h => by cases h)
  have sc0 : σ x3 = .inl (ty0, mc0, .inl gc0) := sc0
  have ec0 : x2 = gc0 ic0 := Sum.inl.inj (Option.some.inj (show some (fI x2) = some _ from e5))
  have kc0 : (ic0 : Int) = (1 * x1.toInt + 0) + -3 := by
    obtain ⟨z, e6, e7⟩ := e4
    obtain rfl : (1 * x1.toInt + 0) = z := Option.some.inj (show some (1 * x1.toInt + 0) = some z from e6)
    exact e7
  clear e1 e4 e5
  have f0 : fB K n p 1 [fR x0] σ := by
    obtain ⟨w, e6, e7⟩ := m4 (17, [0]) (List.mem_of_getElem? (i := 0) rfl)
    obtain rfl : [fR x0] = w := Option.some.inj (show some [fR x0] = some w from e6)
    exact (fF_b (r := 17) (by decide) rfl).mp e7
  clear m1 m2 m3 m4
  obtain ⟨a9_0, e9_0, h0, g0⟩ := f0
  cases e9_0
  have hF := fAt_of h0 s0
  obtain ⟨gB, hr1, hr2⟩ := hF.1 x3 t0
  rw [hr1] at sc0
  cases sc0
  have q0 : fB K n (p) 55 [fI x1, fI x2] σ := by
    refine (fE_o (by decide)).mpr ⟨x1, x2, rfl, ?_⟩
    rw [show (x1.toInt - 3).toNat = ic0 by omega, ← hr2 _ (by omega), ← ec0]
  exact ⟨p, fun _ => rfl, ⟨(fun q h => by cases h), fun q h => (by cases h), (fun f h => by cases h), (aAllc ⟨_, rfl, (fF_b (r := 882) (by decide) rfl).mpr q0⟩ (fun f h => by cases h))⟩, [], List.mem_cons_self, fun f h => (by cases h)⟩
set_option maxRecDepth 8192 in
theorem rw_ruYs0 {K : Nat → Nat} {n : Nat} : aGho (fF K n) fa_T K n (fJX K n) ag_ruYs0 := by
  refine aGho_of ⟨rfl, rfl⟩ ?_
  intro p σ ρ hH hX hA hM
  have hG := aAG_of hA.1 (fun i e v he hv => (hA.2 i e v he hv).1)
  clear hA
  obtain ⟨v0, v1, v2, v3, rfl, g0, g1, g2, g3⟩ := fA_4 hG
  clear hG
  obtain ⟨x0, rfl, b0, d0⟩ := fG_ref (by decide) g0
  obtain ⟨x1, rfl, b1, d1⟩ := aG_int g1
  dsimp only at b1 d1
  obtain ⟨x2, rfl, b2, d2⟩ := aG_int g2
  dsimp only at b2 d2
  obtain ⟨x3, rfl, b3, d3⟩ := aG_int g3
  dsimp only at b3 d3
  obtain ⟨m1, m2, m3, m4⟩ := hM
  obtain ⟨a0, c0, fs0, w0, e1, s0, t0, e4⟩ := m1 (0, 3, 2) (List.mem_of_getElem? (i := 0) rfl)
  obtain rfl : x0 = a0 := Sum.inl.inj (Option.some.inj (Sum.inr.inj (Sum.inr.inj (Option.some.inj (show some (fR x0) = some _ from e1)))))
  obtain rfl : fI x2 = w0 := Option.some.inj (show some (fI x2) = some w0 from e4)
  clear e1 e4
  obtain ⟨a1, c1, fs1, w1, e1, s1, t1, e4⟩ := m1 (0, 2, 3) (List.mem_of_getElem? (i := 1) rfl)
  obtain rfl : x0 = a1 := Sum.inl.inj (Option.some.inj (Sum.inr.inj (Sum.inr.inj (Option.some.inj (show some (fR x0) = some _ from e1)))))
  obtain rfl : fI x3 = w1 := Option.some.inj (show some (fI x3) = some w1 from e4)
  clear e1 e4
  have f0 : fB K n p 1 [fR x0] σ := by
    obtain ⟨w, e6, e7⟩ := m4 (17, [0]) (List.mem_of_getElem? (i := 0) rfl)
    obtain rfl : [fR x0] = w := Option.some.inj (show some [fR x0] = some w from e6)
    exact (fF_b (r := 17) (by decide) rfl).mp e7
  clear m1 m2 m3 m4
  obtain ⟨a9_0, e9_0, h0, g0⟩ := f0
  cases e9_0
  have hF := fAt_of h0 s0
  have hsd := hF.2.1 x3 (by rw [s0] at s1; cases s1; exact t1)
  have hrt := hF.2.2.1 x2 t0
  have q0 : fB K n (p) 51 [fI x1] σ := by
    refine (fE_o (by decide)).mpr ⟨x1, rfl, ?_⟩
    rw [← hrt, ← hsd, show x3.toInt.toNat = 0 by omega]
    have e9 : (((4 ^ 0 : Nat)) : Int) = 1 := by decide
    rw [e9]
    omega
  exact ⟨p, fun _ => rfl, ⟨(fun q h => by cases h), fun q h => (by cases h), (fun f h => by cases h), (aAllc ⟨_, rfl, (fF_b (r := 817) (by decide) rfl).mpr q0⟩ (fun f h => by cases h))⟩, [], List.mem_cons_self, fun f h => (by cases h)⟩
set_option maxRecDepth 8192 in
theorem rw_ruYs1 {K : Nat → Nat} {n : Nat} : aGho (fF K n) fa_T K n (fJX K n) ag_ruYs1 := by
  refine aGho_of ⟨rfl, rfl⟩ ?_
  intro p σ ρ hH hX hA hM
  have hG := aAG_of hA.1 (fun i e v he hv => (hA.2 i e v he hv).1)
  clear hA
  obtain ⟨v0, v1, v2, v3, rfl, g0, g1, g2, g3⟩ := fA_4 hG
  clear hG
  obtain ⟨x0, rfl, b0, d0⟩ := fG_ref (by decide) g0
  obtain ⟨x1, rfl, b1, d1⟩ := aG_int g1
  dsimp only at b1 d1
  obtain ⟨x2, rfl, b2, d2⟩ := aG_int g2
  dsimp only at b2 d2
  obtain ⟨x3, rfl, b3, d3⟩ := aG_int g3
  dsimp only at b3 d3
  obtain ⟨m1, m2, m3, m4⟩ := hM
  obtain ⟨a0, c0, fs0, w0, e1, s0, t0, e4⟩ := m1 (0, 3, 2) (List.mem_of_getElem? (i := 0) rfl)
  obtain rfl : x0 = a0 := Sum.inl.inj (Option.some.inj (Sum.inr.inj (Sum.inr.inj (Option.some.inj (show some (fR x0) = some _ from e1)))))
  obtain rfl : fI x2 = w0 := Option.some.inj (show some (fI x2) = some w0 from e4)
  clear e1 e4
  obtain ⟨a1, c1, fs1, w1, e1, s1, t1, e4⟩ := m1 (0, 2, 3) (List.mem_of_getElem? (i := 1) rfl)
  obtain rfl : x0 = a1 := Sum.inl.inj (Option.some.inj (Sum.inr.inj (Sum.inr.inj (Option.some.inj (show some (fR x0) = some _ from e1)))))
  obtain rfl : fI x3 = w1 := Option.some.inj (show some (fI x3) = some w1 from e4)
  clear e1 e4
  have f0 : fB K n p 1 [fR x0] σ := by
    obtain ⟨w, e6, e7⟩ := m4 (17, [0]) (List.mem_of_getElem? (i := 0) rfl)
    obtain rfl : [fR x0] = w := Option.some.inj (show some [fR x0] = some w from e6)
    exact (fF_b (r := 17) (by decide) rfl).mp e7
  clear m1 m2 m3 m4
  obtain ⟨a9_0, e9_0, h0, g0⟩ := f0
  cases e9_0
  have hF := fAt_of h0 s0
  have hsd := hF.2.1 x3 (by rw [s0] at s1; cases s1; exact t1)
  have hrt := hF.2.2.1 x2 t0
  have q0 : fB K n (p) 51 [fI x1] σ := by
    refine (fE_o (by decide)).mpr ⟨x1, rfl, ?_⟩
    rw [← hrt, ← hsd, show x3.toInt.toNat = 0 by omega]
    have e9 : (((4 ^ 0 : Nat)) : Int) = 1 := by decide
    rw [e9]
    omega
  exact ⟨p, fun _ => rfl, ⟨(fun q h => by cases h), fun q h => (by cases h), (fun f h => by cases h), (aAllc ⟨_, rfl, (fF_b (r := 817) (by decide) rfl).mpr q0⟩ (fun f h => by cases h))⟩, [], List.mem_cons_self, fun f h => (by cases h)⟩
set_option maxRecDepth 8192 in
theorem rw_ruYs2 {K : Nat → Nat} {n : Nat} : aGho (fF K n) fa_T K n (fJX K n) ag_ruYs2 := by
  refine aGho_of ⟨rfl, rfl⟩ ?_
  intro p σ ρ hH hX hA hM
  have hG := aAG_of hA.1 (fun i e v he hv => (hA.2 i e v he hv).1)
  clear hA
  obtain ⟨v0, v1, v2, v3, rfl, g0, g1, g2, g3⟩ := fA_4 hG
  clear hG
  obtain ⟨x0, rfl, b0, d0⟩ := fG_ref (by decide) g0
  obtain ⟨x1, rfl, b1, d1⟩ := aG_int g1
  dsimp only at b1 d1
  obtain ⟨x2, rfl, b2, d2⟩ := aG_int g2
  dsimp only at b2 d2
  obtain ⟨x3, rfl, b3, d3⟩ := aG_int g3
  dsimp only at b3 d3
  obtain ⟨m1, m2, m3, m4⟩ := hM
  obtain ⟨a0, c0, fs0, w0, e1, s0, t0, e4⟩ := m1 (0, 3, 2) (List.mem_of_getElem? (i := 0) rfl)
  obtain rfl : x0 = a0 := Sum.inl.inj (Option.some.inj (Sum.inr.inj (Sum.inr.inj (Option.some.inj (show some (fR x0) = some _ from e1)))))
  obtain rfl : fI x2 = w0 := Option.some.inj (show some (fI x2) = some w0 from e4)
  clear e1 e4
  obtain ⟨a1, c1, fs1, w1, e1, s1, t1, e4⟩ := m1 (0, 2, 3) (List.mem_of_getElem? (i := 1) rfl)
  obtain rfl : x0 = a1 := Sum.inl.inj (Option.some.inj (Sum.inr.inj (Sum.inr.inj (Option.some.inj (show some (fR x0) = some _ from e1)))))
  obtain rfl : fI x3 = w1 := Option.some.inj (show some (fI x3) = some w1 from e4)
  clear e1 e4
  have f0 : fB K n p 1 [fR x0] σ := by
    obtain ⟨w, e6, e7⟩ := m4 (17, [0]) (List.mem_of_getElem? (i := 0) rfl)
    obtain rfl : [fR x0] = w := Option.some.inj (show some [fR x0] = some w from e6)
    exact (fF_b (r := 17) (by decide) rfl).mp e7
  clear m1 m2 m3 m4
  obtain ⟨a9_0, e9_0, h0, g0⟩ := f0
  cases e9_0
  have hF := fAt_of h0 s0
  have hsd := hF.2.1 x3 (by rw [s0] at s1; cases s1; exact t1)
  have hrt := hF.2.2.1 x2 t0
  have q0 : fB K n (p) 51 [fI x1] σ := by
    refine (fE_o (by decide)).mpr ⟨x1, rfl, ?_⟩
    rw [← hrt, ← hsd, show x3.toInt.toNat = 0 by omega]
    have e9 : (((4 ^ 0 : Nat)) : Int) = 1 := by decide
    rw [e9]
    omega
  exact ⟨p, fun _ => rfl, ⟨(fun q h => by cases h), fun q h => (by cases h), (fun f h => by cases h), (aAllc ⟨_, rfl, (fF_b (r := 817) (by decide) rfl).mpr q0⟩ (fun f h => by cases h))⟩, [], List.mem_cons_self, fun f h => (by cases h)⟩
set_option maxRecDepth 8192 in
theorem rw_ruYs3 {K : Nat → Nat} {n : Nat} : aGho (fF K n) fa_T K n (fJX K n) ag_ruYs3 := by
  refine aGho_of ⟨rfl, rfl⟩ ?_
  intro p σ ρ hH hX hA hM
  have hG := aAG_of hA.1 (fun i e v he hv => (hA.2 i e v he hv).1)
  clear hA
  obtain ⟨v0, v1, v2, v3, rfl, g0, g1, g2, g3⟩ := fA_4 hG
  clear hG
  obtain ⟨x0, rfl, b0, d0⟩ := fG_ref (by decide) g0
  obtain ⟨x1, rfl, b1, d1⟩ := aG_int g1
  dsimp only at b1 d1
  obtain ⟨x2, rfl, b2, d2⟩ := aG_int g2
  dsimp only at b2 d2
  obtain ⟨x3, rfl, b3, d3⟩ := aG_int g3
  dsimp only at b3 d3
  obtain ⟨m1, m2, m3, m4⟩ := hM
  obtain ⟨a0, c0, fs0, w0, e1, s0, t0, e4⟩ := m1 (0, 3, 2) (List.mem_of_getElem? (i := 0) rfl)
  obtain rfl : x0 = a0 := Sum.inl.inj (Option.some.inj (Sum.inr.inj (Sum.inr.inj (Option.some.inj (show some (fR x0) = some _ from e1)))))
  obtain rfl : fI x2 = w0 := Option.some.inj (show some (fI x2) = some w0 from e4)
  clear e1 e4
  obtain ⟨a1, c1, fs1, w1, e1, s1, t1, e4⟩ := m1 (0, 2, 3) (List.mem_of_getElem? (i := 1) rfl)
  obtain rfl : x0 = a1 := Sum.inl.inj (Option.some.inj (Sum.inr.inj (Sum.inr.inj (Option.some.inj (show some (fR x0) = some _ from e1)))))
  obtain rfl : fI x3 = w1 := Option.some.inj (show some (fI x3) = some w1 from e4)
  clear e1 e4
  have f0 : fB K n p 1 [fR x0] σ := by
    obtain ⟨w, e6, e7⟩ := m4 (17, [0]) (List.mem_of_getElem? (i := 0) rfl)
    obtain rfl : [fR x0] = w := Option.some.inj (show some [fR x0] = some w from e6)
    exact (fF_b (r := 17) (by decide) rfl).mp e7
  clear m1 m2 m3 m4
  obtain ⟨a9_0, e9_0, h0, g0⟩ := f0
  cases e9_0
  have hF := fAt_of h0 s0
  have hsd := hF.2.1 x3 (by rw [s0] at s1; cases s1; exact t1)
  have hrt := hF.2.2.1 x2 t0
  have q0 : fB K n (p) 51 [fI x1] σ := by
    refine (fE_o (by decide)).mpr ⟨x1, rfl, ?_⟩
    rw [← hrt, ← hsd, show x3.toInt.toNat = 0 by omega]
    have e9 : (((4 ^ 0 : Nat)) : Int) = 1 := by decide
    rw [e9]
    omega
  exact ⟨p, fun _ => rfl, ⟨(fun q h => by cases h), fun q h => (by cases h), (fun f h => by cases h), (aAllc ⟨_, rfl, (fF_b (r := 817) (by decide) rfl).mpr q0⟩ (fun f h => by cases h))⟩, [], List.mem_cons_self, fun f h => (by cases h)⟩
set_option maxRecDepth 8192 in
theorem rw_ruYs4 {K : Nat → Nat} {n : Nat} : aGho (fF K n) fa_T K n (fJX K n) ag_ruYs4 := by
  refine aGho_of ⟨rfl, rfl⟩ ?_
  intro p σ ρ hH hX hA hM
  have hG := aAG_of hA.1 (fun i e v he hv => (hA.2 i e v he hv).1)
  clear hA
  obtain ⟨v0, v1, v2, v3, rfl, g0, g1, g2, g3⟩ := fA_4 hG
  clear hG
  obtain ⟨x0, rfl, b0, d0⟩ := fG_ref (by decide) g0
  obtain ⟨x1, rfl, b1, d1⟩ := aG_int g1
  dsimp only at b1 d1
  obtain ⟨x2, rfl, b2, d2⟩ := aG_int g2
  dsimp only at b2 d2
  obtain ⟨x3, rfl, b3, d3⟩ := aG_int g3
  dsimp only at b3 d3
  obtain ⟨m1, m2, m3, m4⟩ := hM
  obtain ⟨a0, c0, fs0, w0, e1, s0, t0, e4⟩ := m1 (0, 3, 2) (List.mem_of_getElem? (i := 0) rfl)
  obtain rfl : x0 = a0 := Sum.inl.inj (Option.some.inj (Sum.inr.inj (Sum.inr.inj (Option.some.inj (show some (fR x0) = some _ from e1)))))
  obtain rfl : fI x2 = w0 := Option.some.inj (show some (fI x2) = some w0 from e4)
  clear e1 e4
  obtain ⟨a1, c1, fs1, w1, e1, s1, t1, e4⟩ := m1 (0, 2, 3) (List.mem_of_getElem? (i := 1) rfl)
  obtain rfl : x0 = a1 := Sum.inl.inj (Option.some.inj (Sum.inr.inj (Sum.inr.inj (Option.some.inj (show some (fR x0) = some _ from e1)))))
  obtain rfl : fI x3 = w1 := Option.some.inj (show some (fI x3) = some w1 from e4)
  clear e1 e4
  have f0 : fB K n p 1 [fR x0] σ := by
    obtain ⟨w, e6, e7⟩ := m4 (17, [0]) (List.mem_of_getElem? (i := 0) rfl)
    obtain rfl : [fR x0] = w := Option.some.inj (show some [fR x0] = some w from e6)
    exact (fF_b (r := 17) (by decide) rfl).mp e7
  clear m1 m2 m3 m4
  obtain ⟨a9_0, e9_0, h0, g0⟩ := f0
  cases e9_0
  have hF := fAt_of h0 s0
  have hsd := hF.2.1 x3 (by rw [s0] at s1; cases s1; exact t1)
  have hrt := hF.2.2.1 x2 t0
  have q0 : fB K n (p) 51 [fI x1] σ := by
    refine (fE_o (by decide)).mpr ⟨x1, rfl, ?_⟩
    rw [← hrt, ← hsd, show x3.toInt.toNat = 0 by omega]
    have e9 : (((4 ^ 0 : Nat)) : Int) = 1 := by decide
    rw [e9]
    omega
  exact ⟨p, fun _ => rfl, ⟨(fun q h => by cases h), fun q h => (by cases h), (fun f h => by cases h), (aAllc ⟨_, rfl, (fF_b (r := 817) (by decide) rfl).mpr q0⟩ (fun f h => by cases h))⟩, [], List.mem_cons_self, fun f h => (by cases h)⟩
set_option maxRecDepth 8192 in
theorem rw_ruYs5 {K : Nat → Nat} {n : Nat} : aGho (fF K n) fa_T K n (fJX K n) ag_ruYs5 := by
  refine aGho_of ⟨rfl, rfl⟩ ?_
  intro p σ ρ hH hX hA hM
  have hG := aAG_of hA.1 (fun i e v he hv => (hA.2 i e v he hv).1)
  clear hA
  obtain ⟨v0, v1, v2, v3, rfl, g0, g1, g2, g3⟩ := fA_4 hG
  clear hG
  obtain ⟨x0, rfl, b0, d0⟩ := fG_ref (by decide) g0
  obtain ⟨x1, rfl, b1, d1⟩ := aG_int g1
  dsimp only at b1 d1
  obtain ⟨x2, rfl, b2, d2⟩ := aG_int g2
  dsimp only at b2 d2
  obtain ⟨x3, rfl, b3, d3⟩ := aG_int g3
  dsimp only at b3 d3
  obtain ⟨m1, m2, m3, m4⟩ := hM
  obtain ⟨a0, c0, fs0, w0, e1, s0, t0, e4⟩ := m1 (0, 3, 2) (List.mem_of_getElem? (i := 0) rfl)
  obtain rfl : x0 = a0 := Sum.inl.inj (Option.some.inj (Sum.inr.inj (Sum.inr.inj (Option.some.inj (show some (fR x0) = some _ from e1)))))
  obtain rfl : fI x2 = w0 := Option.some.inj (show some (fI x2) = some w0 from e4)
  clear e1 e4
  obtain ⟨a1, c1, fs1, w1, e1, s1, t1, e4⟩ := m1 (0, 2, 3) (List.mem_of_getElem? (i := 1) rfl)
  obtain rfl : x0 = a1 := Sum.inl.inj (Option.some.inj (Sum.inr.inj (Sum.inr.inj (Option.some.inj (show some (fR x0) = some _ from e1)))))
  obtain rfl : fI x3 = w1 := Option.some.inj (show some (fI x3) = some w1 from e4)
  clear e1 e4
  have f0 : fB K n p 1 [fR x0] σ := by
    obtain ⟨w, e6, e7⟩ := m4 (17, [0]) (List.mem_of_getElem? (i := 0) rfl)
    obtain rfl : [fR x0] = w := Option.some.inj (show some [fR x0] = some w from e6)
    exact (fF_b (r := 17) (by decide) rfl).mp e7
  clear m1 m2 m3 m4
  obtain ⟨a9_0, e9_0, h0, g0⟩ := f0
  cases e9_0
  have hF := fAt_of h0 s0
  have hsd := hF.2.1 x3 (by rw [s0] at s1; cases s1; exact t1)
  have hrt := hF.2.2.1 x2 t0
  have q0 : fB K n (p) 51 [fI x1] σ := by
    refine (fE_o (by decide)).mpr ⟨x1, rfl, ?_⟩
    rw [← hrt, ← hsd, show x3.toInt.toNat = 0 by omega]
    have e9 : (((4 ^ 0 : Nat)) : Int) = 1 := by decide
    rw [e9]
    omega
  exact ⟨p, fun _ => rfl, ⟨(fun q h => by cases h), fun q h => (by cases h), (fun f h => by cases h), (aAllc ⟨_, rfl, (fF_b (r := 817) (by decide) rfl).mpr q0⟩ (fun f h => by cases h))⟩, [], List.mem_cons_self, fun f h => (by cases h)⟩
set_option maxRecDepth 8192 in
theorem rw_ruYs6 {K : Nat → Nat} {n : Nat} : aGho (fF K n) fa_T K n (fJX K n) ag_ruYs6 := by
  refine aGho_of ⟨rfl, rfl⟩ ?_
  intro p σ ρ hH hX hA hM
  have hG := aAG_of hA.1 (fun i e v he hv => (hA.2 i e v he hv).1)
  clear hA
  obtain ⟨v0, v1, v2, v3, rfl, g0, g1, g2, g3⟩ := fA_4 hG
  clear hG
  obtain ⟨x0, rfl, b0, d0⟩ := fG_ref (by decide) g0
  obtain ⟨x1, rfl, b1, d1⟩ := aG_int g1
  dsimp only at b1 d1
  obtain ⟨x2, rfl, b2, d2⟩ := aG_int g2
  dsimp only at b2 d2
  obtain ⟨x3, rfl, b3, d3⟩ := aG_int g3
  dsimp only at b3 d3
  obtain ⟨m1, m2, m3, m4⟩ := hM
  obtain ⟨a0, c0, fs0, w0, e1, s0, t0, e4⟩ := m1 (0, 3, 2) (List.mem_of_getElem? (i := 0) rfl)
  obtain rfl : x0 = a0 := Sum.inl.inj (Option.some.inj (Sum.inr.inj (Sum.inr.inj (Option.some.inj (show some (fR x0) = some _ from e1)))))
  obtain rfl : fI x2 = w0 := Option.some.inj (show some (fI x2) = some w0 from e4)
  clear e1 e4
  obtain ⟨a1, c1, fs1, w1, e1, s1, t1, e4⟩ := m1 (0, 2, 3) (List.mem_of_getElem? (i := 1) rfl)
  obtain rfl : x0 = a1 := Sum.inl.inj (Option.some.inj (Sum.inr.inj (Sum.inr.inj (Option.some.inj (show some (fR x0) = some _ from e1)))))
  obtain rfl : fI x3 = w1 := Option.some.inj (show some (fI x3) = some w1 from e4)
  clear e1 e4
  have f0 : fB K n p 1 [fR x0] σ := by
    obtain ⟨w, e6, e7⟩ := m4 (17, [0]) (List.mem_of_getElem? (i := 0) rfl)
    obtain rfl : [fR x0] = w := Option.some.inj (show some [fR x0] = some w from e6)
    exact (fF_b (r := 17) (by decide) rfl).mp e7
  clear m1 m2 m3 m4
  obtain ⟨a9_0, e9_0, h0, g0⟩ := f0
  cases e9_0
  have hF := fAt_of h0 s0
  have hsd := hF.2.1 x3 (by rw [s0] at s1; cases s1; exact t1)
  have hrt := hF.2.2.1 x2 t0
  have q0 : fB K n (p) 51 [fI x1] σ := by
    refine (fE_o (by decide)).mpr ⟨x1, rfl, ?_⟩
    rw [← hrt, ← hsd, show x3.toInt.toNat = 0 by omega]
    have e9 : (((4 ^ 0 : Nat)) : Int) = 1 := by decide
    rw [e9]
    omega
  exact ⟨p, fun _ => rfl, ⟨(fun q h => by cases h), fun q h => (by cases h), (fun f h => by cases h), (aAllc ⟨_, rfl, (fF_b (r := 817) (by decide) rfl).mpr q0⟩ (fun f h => by cases h))⟩, [], List.mem_cons_self, fun f h => (by cases h)⟩
set_option maxRecDepth 8192 in
theorem rw_ruYs7 {K : Nat → Nat} {n : Nat} : aGho (fF K n) fa_T K n (fJX K n) ag_ruYs7 := by
  refine aGho_of ⟨rfl, rfl⟩ ?_
  intro p σ ρ hH hX hA hM
  have hG := aAG_of hA.1 (fun i e v he hv => (hA.2 i e v he hv).1)
  clear hA
  obtain ⟨v0, v1, v2, v3, rfl, g0, g1, g2, g3⟩ := fA_4 hG
  clear hG
  obtain ⟨x0, rfl, b0, d0⟩ := fG_ref (by decide) g0
  obtain ⟨x1, rfl, b1, d1⟩ := aG_int g1
  dsimp only at b1 d1
  obtain ⟨x2, rfl, b2, d2⟩ := aG_int g2
  dsimp only at b2 d2
  obtain ⟨x3, rfl, b3, d3⟩ := aG_int g3
  dsimp only at b3 d3
  obtain ⟨m1, m2, m3, m4⟩ := hM
  obtain ⟨a0, c0, fs0, w0, e1, s0, t0, e4⟩ := m1 (0, 3, 2) (List.mem_of_getElem? (i := 0) rfl)
  obtain rfl : x0 = a0 := Sum.inl.inj (Option.some.inj (Sum.inr.inj (Sum.inr.inj (Option.some.inj (show some (fR x0) = some _ from e1)))))
  obtain rfl : fI x2 = w0 := Option.some.inj (show some (fI x2) = some w0 from e4)
  clear e1 e4
  obtain ⟨a1, c1, fs1, w1, e1, s1, t1, e4⟩ := m1 (0, 2, 3) (List.mem_of_getElem? (i := 1) rfl)
  obtain rfl : x0 = a1 := Sum.inl.inj (Option.some.inj (Sum.inr.inj (Sum.inr.inj (Option.some.inj (show some (fR x0) = some _ from e1)))))
  obtain rfl : fI x3 = w1 := Option.some.inj (show some (fI x3) = some w1 from e4)
  clear e1 e4
  have f0 : fB K n p 1 [fR x0] σ := by
    obtain ⟨w, e6, e7⟩ := m4 (17, [0]) (List.mem_of_getElem? (i := 0) rfl)
    obtain rfl : [fR x0] = w := Option.some.inj (show some [fR x0] = some w from e6)
    exact (fF_b (r := 17) (by decide) rfl).mp e7
  clear m1 m2 m3 m4
  obtain ⟨a9_0, e9_0, h0, g0⟩ := f0
  cases e9_0
  have hF := fAt_of h0 s0
  have hsd := hF.2.1 x3 (by rw [s0] at s1; cases s1; exact t1)
  have hrt := hF.2.2.1 x2 t0
  have q0 : fB K n (p) 51 [fI x1] σ := by
    refine (fE_o (by decide)).mpr ⟨x1, rfl, ?_⟩
    rw [← hrt, ← hsd, show x3.toInt.toNat = 0 by omega]
    have e9 : (((4 ^ 0 : Nat)) : Int) = 1 := by decide
    rw [e9]
    omega
  exact ⟨p, fun _ => rfl, ⟨(fun q h => by cases h), fun q h => (by cases h), (fun f h => by cases h), (aAllc ⟨_, rfl, (fF_b (r := 817) (by decide) rfl).mpr q0⟩ (fun f h => by cases h))⟩, [], List.mem_cons_self, fun f h => (by cases h)⟩
set_option maxRecDepth 8192 in
theorem rw_ruYs8 {K : Nat → Nat} {n : Nat} : aGho (fF K n) fa_T K n (fJX K n) ag_ruYs8 := by
  refine aGho_of ⟨rfl, rfl⟩ ?_
  intro p σ ρ hH hX hA hM
  have hG := aAG_of hA.1 (fun i e v he hv => (hA.2 i e v he hv).1)
  clear hA
  obtain ⟨v0, v1, v2, v3, rfl, g0, g1, g2, g3⟩ := fA_4 hG
  clear hG
  obtain ⟨x0, rfl, b0, d0⟩ := fG_ref (by decide) g0
  obtain ⟨x1, rfl, b1, d1⟩ := aG_int g1
  dsimp only at b1 d1
  obtain ⟨x2, rfl, b2, d2⟩ := aG_int g2
  dsimp only at b2 d2
  obtain ⟨x3, rfl, b3, d3⟩ := aG_int g3
  dsimp only at b3 d3
  obtain ⟨m1, m2, m3, m4⟩ := hM
  obtain ⟨a0, c0, fs0, w0, e1, s0, t0, e4⟩ := m1 (0, 3, 2) (List.mem_of_getElem? (i := 0) rfl)
  obtain rfl : x0 = a0 := Sum.inl.inj (Option.some.inj (Sum.inr.inj (Sum.inr.inj (Option.some.inj (show some (fR x0) = some _ from e1)))))
  obtain rfl : fI x2 = w0 := Option.some.inj (show some (fI x2) = some w0 from e4)
  clear e1 e4
  obtain ⟨a1, c1, fs1, w1, e1, s1, t1, e4⟩ := m1 (0, 2, 3) (List.mem_of_getElem? (i := 1) rfl)
  obtain rfl : x0 = a1 := Sum.inl.inj (Option.some.inj (Sum.inr.inj (Sum.inr.inj (Option.some.inj (show some (fR x0) = some _ from e1)))))
  obtain rfl : fI x3 = w1 := Option.some.inj (show some (fI x3) = some w1 from e4)
  clear e1 e4
  have f0 : fB K n p 1 [fR x0] σ := by
    obtain ⟨w, e6, e7⟩ := m4 (17, [0]) (List.mem_of_getElem? (i := 0) rfl)
    obtain rfl : [fR x0] = w := Option.some.inj (show some [fR x0] = some w from e6)
    exact (fF_b (r := 17) (by decide) rfl).mp e7
  clear m1 m2 m3 m4
  obtain ⟨a9_0, e9_0, h0, g0⟩ := f0
  cases e9_0
  have hF := fAt_of h0 s0
  have hsd := hF.2.1 x3 (by rw [s0] at s1; cases s1; exact t1)
  have hrt := hF.2.2.1 x2 t0
  have q0 : fB K n (p) 51 [fI x1] σ := by
    refine (fE_o (by decide)).mpr ⟨x1, rfl, ?_⟩
    rw [← hrt, ← hsd, show x3.toInt.toNat = 1 by omega]
    have e9 : (((4 ^ 1 : Nat)) : Int) = 4 := by decide
    rw [e9]
    omega
  exact ⟨p, fun _ => rfl, ⟨(fun q h => by cases h), fun q h => (by cases h), (fun f h => by cases h), (aAllc ⟨_, rfl, (fF_b (r := 817) (by decide) rfl).mpr q0⟩ (fun f h => by cases h))⟩, [], List.mem_cons_self, fun f h => (by cases h)⟩
set_option maxRecDepth 8192 in
theorem rw_ruYs9 {K : Nat → Nat} {n : Nat} : aGho (fF K n) fa_T K n (fJX K n) ag_ruYs9 := by
  refine aGho_of ⟨rfl, rfl⟩ ?_
  intro p σ ρ hH hX hA hM
  have hG := aAG_of hA.1 (fun i e v he hv => (hA.2 i e v he hv).1)
  clear hA
  obtain ⟨v0, v1, v2, v3, rfl, g0, g1, g2, g3⟩ := fA_4 hG
  clear hG
  obtain ⟨x0, rfl, b0, d0⟩ := fG_ref (by decide) g0
  obtain ⟨x1, rfl, b1, d1⟩ := aG_int g1
  dsimp only at b1 d1
  obtain ⟨x2, rfl, b2, d2⟩ := aG_int g2
  dsimp only at b2 d2
  obtain ⟨x3, rfl, b3, d3⟩ := aG_int g3
  dsimp only at b3 d3
  obtain ⟨m1, m2, m3, m4⟩ := hM
  obtain ⟨a0, c0, fs0, w0, e1, s0, t0, e4⟩ := m1 (0, 3, 2) (List.mem_of_getElem? (i := 0) rfl)
  obtain rfl : x0 = a0 := Sum.inl.inj (Option.some.inj (Sum.inr.inj (Sum.inr.inj (Option.some.inj (show some (fR x0) = some _ from e1)))))
  obtain rfl : fI x2 = w0 := Option.some.inj (show some (fI x2) = some w0 from e4)
  clear e1 e4
  obtain ⟨a1, c1, fs1, w1, e1, s1, t1, e4⟩ := m1 (0, 2, 3) (List.mem_of_getElem? (i := 1) rfl)
  obtain rfl : x0 = a1 := Sum.inl.inj (Option.some.inj (Sum.inr.inj (Sum.inr.inj (Option.some.inj (show some (fR x0) = some _ from e1)))))
  obtain rfl : fI x3 = w1 := Option.some.inj (show some (fI x3) = some w1 from e4)
  clear e1 e4
  have f0 : fB K n p 1 [fR x0] σ := by
    obtain ⟨w, e6, e7⟩ := m4 (17, [0]) (List.mem_of_getElem? (i := 0) rfl)
    obtain rfl : [fR x0] = w := Option.some.inj (show some [fR x0] = some w from e6)
    exact (fF_b (r := 17) (by decide) rfl).mp e7
  clear m1 m2 m3 m4
  obtain ⟨a9_0, e9_0, h0, g0⟩ := f0
  cases e9_0
  have hF := fAt_of h0 s0
  have hsd := hF.2.1 x3 (by rw [s0] at s1; cases s1; exact t1)
  have hrt := hF.2.2.1 x2 t0
  have q0 : fB K n (p) 51 [fI x1] σ := by
    refine (fE_o (by decide)).mpr ⟨x1, rfl, ?_⟩
    rw [← hrt, ← hsd, show x3.toInt.toNat = 1 by omega]
    have e9 : (((4 ^ 1 : Nat)) : Int) = 4 := by decide
    rw [e9]
    omega
  exact ⟨p, fun _ => rfl, ⟨(fun q h => by cases h), fun q h => (by cases h), (fun f h => by cases h), (aAllc ⟨_, rfl, (fF_b (r := 817) (by decide) rfl).mpr q0⟩ (fun f h => by cases h))⟩, [], List.mem_cons_self, fun f h => (by cases h)⟩
set_option maxRecDepth 8192 in
theorem rw_ruYl10 {K : Nat → Nat} {n : Nat} : aGho (fF K n) fa_T K n (fJX K n) ag_ruYl10 := by
  refine aGho_of ⟨rfl, rfl⟩ ?_
  intro p σ ρ hH hX hA hM
  have hG := aAG_of hA.1 (fun i e v he hv => (hA.2 i e v he hv).1)
  clear hA
  obtain ⟨v0, v1, v2, v3, rfl, g0, g1, g2, g3⟩ := fA_4 hG
  clear hG
  obtain ⟨x0, rfl, b0, d0⟩ := fG_ref (by decide) g0
  obtain ⟨x1, rfl, b1, d1⟩ := aG_int g1
  dsimp only at b1 d1
  obtain ⟨x2, rfl, b2, d2⟩ := aG_int g2
  dsimp only at b2 d2
  obtain ⟨x3, rfl, b3, d3⟩ := aG_int g3
  dsimp only at b3 d3
  obtain ⟨m1, m2, m3, m4⟩ := hM
  obtain ⟨a0, c0, fs0, w0, e1, s0, t0, e4⟩ := m1 (0, 3, 2) (List.mem_of_getElem? (i := 0) rfl)
  obtain rfl : x0 = a0 := Sum.inl.inj (Option.some.inj (Sum.inr.inj (Sum.inr.inj (Option.some.inj (show some (fR x0) = some _ from e1)))))
  obtain rfl : fI x2 = w0 := Option.some.inj (show some (fI x2) = some w0 from e4)
  clear e1 e4
  obtain ⟨a1, c1, fs1, w1, e1, s1, t1, e4⟩ := m1 (0, 2, 3) (List.mem_of_getElem? (i := 1) rfl)
  obtain rfl : x0 = a1 := Sum.inl.inj (Option.some.inj (Sum.inr.inj (Sum.inr.inj (Option.some.inj (show some (fR x0) = some _ from e1)))))
  obtain rfl : fI x3 = w1 := Option.some.inj (show some (fI x3) = some w1 from e4)
  clear e1 e4
  have f0 : fB K n p 1 [fR x0] σ := by
    obtain ⟨w, e6, e7⟩ := m4 (17, [0]) (List.mem_of_getElem? (i := 0) rfl)
    obtain rfl : [fR x0] = w := Option.some.inj (show some [fR x0] = some w from e6)
    exact (fF_b (r := 17) (by decide) rfl).mp e7
  clear m1 m2 m3 m4
  obtain ⟨a9_0, e9_0, h0, g0⟩ := f0
  cases e9_0
  have hF := fAt_of h0 s0
  have hsd := hF.2.1 x3 (by rw [s0] at s1; cases s1; exact t1)
  have hrt := hF.2.2.1 x2 t0
  have q0 : fB K n (p) 53 [fI x1] σ := by
    refine (fE_o (by decide)).mpr ⟨x1, rfl, ?_⟩
    rw [← hrt, ← hsd, show x3.toInt.toNat = 0 by omega]
    have e9 : (((2 * 4 ^ 0 : Nat)) : Int) = 2 := by decide
    rw [e9]
    omega
  exact ⟨p, fun _ => rfl, ⟨(fun q h => by cases h), fun q h => (by cases h), (fun f h => by cases h), (aAllc ⟨_, rfl, (fF_b (r := 849) (by decide) rfl).mpr q0⟩ (fun f h => by cases h))⟩, [], List.mem_cons_self, fun f h => (by cases h)⟩
set_option maxRecDepth 8192 in
theorem rw_ruYl11 {K : Nat → Nat} {n : Nat} : aGho (fF K n) fa_T K n (fJX K n) ag_ruYl11 := by
  refine aGho_of ⟨rfl, rfl⟩ ?_
  intro p σ ρ hH hX hA hM
  have hG := aAG_of hA.1 (fun i e v he hv => (hA.2 i e v he hv).1)
  clear hA
  obtain ⟨v0, v1, v2, v3, rfl, g0, g1, g2, g3⟩ := fA_4 hG
  clear hG
  obtain ⟨x0, rfl, b0, d0⟩ := fG_ref (by decide) g0
  obtain ⟨x1, rfl, b1, d1⟩ := aG_int g1
  dsimp only at b1 d1
  obtain ⟨x2, rfl, b2, d2⟩ := aG_int g2
  dsimp only at b2 d2
  obtain ⟨x3, rfl, b3, d3⟩ := aG_int g3
  dsimp only at b3 d3
  obtain ⟨m1, m2, m3, m4⟩ := hM
  obtain ⟨a0, c0, fs0, w0, e1, s0, t0, e4⟩ := m1 (0, 3, 2) (List.mem_of_getElem? (i := 0) rfl)
  obtain rfl : x0 = a0 := Sum.inl.inj (Option.some.inj (Sum.inr.inj (Sum.inr.inj (Option.some.inj (show some (fR x0) = some _ from e1)))))
  obtain rfl : fI x2 = w0 := Option.some.inj (show some (fI x2) = some w0 from e4)
  clear e1 e4
  obtain ⟨a1, c1, fs1, w1, e1, s1, t1, e4⟩ := m1 (0, 2, 3) (List.mem_of_getElem? (i := 1) rfl)
  obtain rfl : x0 = a1 := Sum.inl.inj (Option.some.inj (Sum.inr.inj (Sum.inr.inj (Option.some.inj (show some (fR x0) = some _ from e1)))))
  obtain rfl : fI x3 = w1 := Option.some.inj (show some (fI x3) = some w1 from e4)
  clear e1 e4
  have f0 : fB K n p 1 [fR x0] σ := by
    obtain ⟨w, e6, e7⟩ := m4 (17, [0]) (List.mem_of_getElem? (i := 0) rfl)
    obtain rfl : [fR x0] = w := Option.some.inj (show some [fR x0] = some w from e6)
    exact (fF_b (r := 17) (by decide) rfl).mp e7
  clear m1 m2 m3 m4
  obtain ⟨a9_0, e9_0, h0, g0⟩ := f0
  cases e9_0
  have hF := fAt_of h0 s0
  have hsd := hF.2.1 x3 (by rw [s0] at s1; cases s1; exact t1)
  have hrt := hF.2.2.1 x2 t0
  have q0 : fB K n (p) 53 [fI x1] σ := by
    refine (fE_o (by decide)).mpr ⟨x1, rfl, ?_⟩
    rw [← hrt, ← hsd, show x3.toInt.toNat = 0 by omega]
    have e9 : (((2 * 4 ^ 0 : Nat)) : Int) = 2 := by decide
    rw [e9]
    omega
  exact ⟨p, fun _ => rfl, ⟨(fun q h => by cases h), fun q h => (by cases h), (fun f h => by cases h), (aAllc ⟨_, rfl, (fF_b (r := 849) (by decide) rfl).mpr q0⟩ (fun f h => by cases h))⟩, [], List.mem_cons_self, fun f h => (by cases h)⟩
set_option maxRecDepth 8192 in
theorem rw_ruYl12 {K : Nat → Nat} {n : Nat} : aGho (fF K n) fa_T K n (fJX K n) ag_ruYl12 := by
  refine aGho_of ⟨rfl, rfl⟩ ?_
  intro p σ ρ hH hX hA hM
  have hG := aAG_of hA.1 (fun i e v he hv => (hA.2 i e v he hv).1)
  clear hA
  obtain ⟨v0, v1, v2, v3, rfl, g0, g1, g2, g3⟩ := fA_4 hG
  clear hG
  obtain ⟨x0, rfl, b0, d0⟩ := fG_ref (by decide) g0
  obtain ⟨x1, rfl, b1, d1⟩ := aG_int g1
  dsimp only at b1 d1
  obtain ⟨x2, rfl, b2, d2⟩ := aG_int g2
  dsimp only at b2 d2
  obtain ⟨x3, rfl, b3, d3⟩ := aG_int g3
  dsimp only at b3 d3
  obtain ⟨m1, m2, m3, m4⟩ := hM
  obtain ⟨a0, c0, fs0, w0, e1, s0, t0, e4⟩ := m1 (0, 3, 2) (List.mem_of_getElem? (i := 0) rfl)
  obtain rfl : x0 = a0 := Sum.inl.inj (Option.some.inj (Sum.inr.inj (Sum.inr.inj (Option.some.inj (show some (fR x0) = some _ from e1)))))
  obtain rfl : fI x2 = w0 := Option.some.inj (show some (fI x2) = some w0 from e4)
  clear e1 e4
  obtain ⟨a1, c1, fs1, w1, e1, s1, t1, e4⟩ := m1 (0, 2, 3) (List.mem_of_getElem? (i := 1) rfl)
  obtain rfl : x0 = a1 := Sum.inl.inj (Option.some.inj (Sum.inr.inj (Sum.inr.inj (Option.some.inj (show some (fR x0) = some _ from e1)))))
  obtain rfl : fI x3 = w1 := Option.some.inj (show some (fI x3) = some w1 from e4)
  clear e1 e4
  have f0 : fB K n p 1 [fR x0] σ := by
    obtain ⟨w, e6, e7⟩ := m4 (17, [0]) (List.mem_of_getElem? (i := 0) rfl)
    obtain rfl : [fR x0] = w := Option.some.inj (show some [fR x0] = some w from e6)
    exact (fF_b (r := 17) (by decide) rfl).mp e7
  clear m1 m2 m3 m4
  obtain ⟨a9_0, e9_0, h0, g0⟩ := f0
  cases e9_0
  have hF := fAt_of h0 s0
  have hsd := hF.2.1 x3 (by rw [s0] at s1; cases s1; exact t1)
  have hrt := hF.2.2.1 x2 t0
  have q0 : fB K n (p) 53 [fI x1] σ := by
    refine (fE_o (by decide)).mpr ⟨x1, rfl, ?_⟩
    rw [← hrt, ← hsd, show x3.toInt.toNat = 0 by omega]
    have e9 : (((2 * 4 ^ 0 : Nat)) : Int) = 2 := by decide
    rw [e9]
    omega
  exact ⟨p, fun _ => rfl, ⟨(fun q h => by cases h), fun q h => (by cases h), (fun f h => by cases h), (aAllc ⟨_, rfl, (fF_b (r := 849) (by decide) rfl).mpr q0⟩ (fun f h => by cases h))⟩, [], List.mem_cons_self, fun f h => (by cases h)⟩
set_option maxRecDepth 8192 in
theorem rw_ruYl13 {K : Nat → Nat} {n : Nat} : aGho (fF K n) fa_T K n (fJX K n) ag_ruYl13 := by
  refine aGho_of ⟨rfl, rfl⟩ ?_
  intro p σ ρ hH hX hA hM
  have hG := aAG_of hA.1 (fun i e v he hv => (hA.2 i e v he hv).1)
  clear hA
  obtain ⟨v0, v1, v2, v3, rfl, g0, g1, g2, g3⟩ := fA_4 hG
  clear hG
  obtain ⟨x0, rfl, b0, d0⟩ := fG_ref (by decide) g0
  obtain ⟨x1, rfl, b1, d1⟩ := aG_int g1
  dsimp only at b1 d1
  obtain ⟨x2, rfl, b2, d2⟩ := aG_int g2
  dsimp only at b2 d2
  obtain ⟨x3, rfl, b3, d3⟩ := aG_int g3
  dsimp only at b3 d3
  obtain ⟨m1, m2, m3, m4⟩ := hM
  obtain ⟨a0, c0, fs0, w0, e1, s0, t0, e4⟩ := m1 (0, 3, 2) (List.mem_of_getElem? (i := 0) rfl)
  obtain rfl : x0 = a0 := Sum.inl.inj (Option.some.inj (Sum.inr.inj (Sum.inr.inj (Option.some.inj (show some (fR x0) = some _ from e1)))))
  obtain rfl : fI x2 = w0 := Option.some.inj (show some (fI x2) = some w0 from e4)
  clear e1 e4
  obtain ⟨a1, c1, fs1, w1, e1, s1, t1, e4⟩ := m1 (0, 2, 3) (List.mem_of_getElem? (i := 1) rfl)
  obtain rfl : x0 = a1 := Sum.inl.inj (Option.some.inj (Sum.inr.inj (Sum.inr.inj (Option.some.inj (show some (fR x0) = some _ from e1)))))
  obtain rfl : fI x3 = w1 := Option.some.inj (show some (fI x3) = some w1 from e4)
  clear e1 e4
  have f0 : fB K n p 1 [fR x0] σ := by
    obtain ⟨w, e6, e7⟩ := m4 (17, [0]) (List.mem_of_getElem? (i := 0) rfl)
    obtain rfl : [fR x0] = w := Option.some.inj (show some [fR x0] = some w from e6)
    exact (fF_b (r := 17) (by decide) rfl).mp e7
  clear m1 m2 m3 m4
  obtain ⟨a9_0, e9_0, h0, g0⟩ := f0
  cases e9_0
  have hF := fAt_of h0 s0
  have hsd := hF.2.1 x3 (by rw [s0] at s1; cases s1; exact t1)
  have hrt := hF.2.2.1 x2 t0
  have q0 : fB K n (p) 53 [fI x1] σ := by
    refine (fE_o (by decide)).mpr ⟨x1, rfl, ?_⟩
    rw [← hrt, ← hsd, show x3.toInt.toNat = 0 by omega]
    have e9 : (((2 * 4 ^ 0 : Nat)) : Int) = 2 := by decide
    rw [e9]
    omega
  exact ⟨p, fun _ => rfl, ⟨(fun q h => by cases h), fun q h => (by cases h), (fun f h => by cases h), (aAllc ⟨_, rfl, (fF_b (r := 849) (by decide) rfl).mpr q0⟩ (fun f h => by cases h))⟩, [], List.mem_cons_self, fun f h => (by cases h)⟩
set_option maxRecDepth 8192 in
theorem rw_ruYl14 {K : Nat → Nat} {n : Nat} : aGho (fF K n) fa_T K n (fJX K n) ag_ruYl14 := by
  refine aGho_of ⟨rfl, rfl⟩ ?_
  intro p σ ρ hH hX hA hM
  have hG := aAG_of hA.1 (fun i e v he hv => (hA.2 i e v he hv).1)
  clear hA
  obtain ⟨v0, v1, v2, v3, rfl, g0, g1, g2, g3⟩ := fA_4 hG
  clear hG
  obtain ⟨x0, rfl, b0, d0⟩ := fG_ref (by decide) g0
  obtain ⟨x1, rfl, b1, d1⟩ := aG_int g1
  dsimp only at b1 d1
  obtain ⟨x2, rfl, b2, d2⟩ := aG_int g2
  dsimp only at b2 d2
  obtain ⟨x3, rfl, b3, d3⟩ := aG_int g3
  dsimp only at b3 d3
  obtain ⟨m1, m2, m3, m4⟩ := hM
  obtain ⟨a0, c0, fs0, w0, e1, s0, t0, e4⟩ := m1 (0, 3, 2) (List.mem_of_getElem? (i := 0) rfl)
  obtain rfl : x0 = a0 := Sum.inl.inj (Option.some.inj (Sum.inr.inj (Sum.inr.inj (Option.some.inj (show some (fR x0) = some _ from e1)))))
  obtain rfl : fI x2 = w0 := Option.some.inj (show some (fI x2) = some w0 from e4)
  clear e1 e4
  obtain ⟨a1, c1, fs1, w1, e1, s1, t1, e4⟩ := m1 (0, 2, 3) (List.mem_of_getElem? (i := 1) rfl)
  obtain rfl : x0 = a1 := Sum.inl.inj (Option.some.inj (Sum.inr.inj (Sum.inr.inj (Option.some.inj (show some (fR x0) = some _ from e1)))))
  obtain rfl : fI x3 = w1 := Option.some.inj (show some (fI x3) = some w1 from e4)
  clear e1 e4
  have f0 : fB K n p 1 [fR x0] σ := by
    obtain ⟨w, e6, e7⟩ := m4 (17, [0]) (List.mem_of_getElem? (i := 0) rfl)
    obtain rfl : [fR x0] = w := Option.some.inj (show some [fR x0] = some w from e6)
    exact (fF_b (r := 17) (by decide) rfl).mp e7
  clear m1 m2 m3 m4
  obtain ⟨a9_0, e9_0, h0, g0⟩ := f0
  cases e9_0
  have hF := fAt_of h0 s0
  have hsd := hF.2.1 x3 (by rw [s0] at s1; cases s1; exact t1)
  have hrt := hF.2.2.1 x2 t0
  have q0 : fB K n (p) 53 [fI x1] σ := by
    refine (fE_o (by decide)).mpr ⟨x1, rfl, ?_⟩
    rw [← hrt, ← hsd, show x3.toInt.toNat = 1 by omega]
    have e9 : (((2 * 4 ^ 1 : Nat)) : Int) = 8 := by decide
    rw [e9]
    omega
  exact ⟨p, fun _ => rfl, ⟨(fun q h => by cases h), fun q h => (by cases h), (fun f h => by cases h), (aAllc ⟨_, rfl, (fF_b (r := 849) (by decide) rfl).mpr q0⟩ (fun f h => by cases h))⟩, [], List.mem_cons_self, fun f h => (by cases h)⟩
set_option maxRecDepth 8192 in
theorem rw_ruXs0 {K : Nat → Nat} {n : Nat} : aGho (fF K n) fa_T K n (fJX K n) ag_ruXs0 := by
  refine aGho_of ⟨rfl, rfl⟩ ?_
  intro p σ ρ hH hX hA hM
  have hG := aAG_of hA.1 (fun i e v he hv => (hA.2 i e v he hv).1)
  clear hA
  obtain ⟨v0, v1, v2, v3, rfl, g0, g1, g2, g3⟩ := fA_4 hG
  clear hG
  obtain ⟨x0, rfl, b0, d0⟩ := fG_ref (by decide) g0
  obtain ⟨x1, rfl, b1, d1⟩ := aG_int g1
  dsimp only at b1 d1
  obtain ⟨x2, rfl, b2, d2⟩ := aG_int g2
  dsimp only at b2 d2
  obtain ⟨x3, rfl, b3, d3⟩ := aG_int g3
  dsimp only at b3 d3
  obtain ⟨m1, m2, m3, m4⟩ := hM
  obtain ⟨a0, c0, fs0, w0, e1, s0, t0, e4⟩ := m1 (0, 3, 2) (List.mem_of_getElem? (i := 0) rfl)
  obtain rfl : x0 = a0 := Sum.inl.inj (Option.some.inj (Sum.inr.inj (Sum.inr.inj (Option.some.inj (show some (fR x0) = some _ from e1)))))
  obtain rfl : fI x2 = w0 := Option.some.inj (show some (fI x2) = some w0 from e4)
  clear e1 e4
  obtain ⟨a1, c1, fs1, w1, e1, s1, t1, e4⟩ := m1 (0, 2, 3) (List.mem_of_getElem? (i := 1) rfl)
  obtain rfl : x0 = a1 := Sum.inl.inj (Option.some.inj (Sum.inr.inj (Sum.inr.inj (Option.some.inj (show some (fR x0) = some _ from e1)))))
  obtain rfl : fI x3 = w1 := Option.some.inj (show some (fI x3) = some w1 from e4)
  clear e1 e4
  have f0 : fB K n p 1 [fR x0] σ := by
    obtain ⟨w, e6, e7⟩ := m4 (17, [0]) (List.mem_of_getElem? (i := 0) rfl)
    obtain rfl : [fR x0] = w := Option.some.inj (show some [fR x0] = some w from e6)
    exact (fF_b (r := 17) (by decide) rfl).mp e7
  clear m1 m2 m3 m4
  obtain ⟨a9_0, e9_0, h0, g0⟩ := f0
  cases e9_0
  have hF := fAt_of h0 s0
  have hsd := hF.2.1 x3 (by rw [s0] at s1; cases s1; exact t1)
  have hrt := hF.2.2.1 x2 t0
  have q0 : fB K n (p) 52 [fI x1] σ := by
    refine (fE_o (by decide)).mpr ⟨x1, rfl, ?_⟩
    rw [← hrt, ← hsd, show x3.toInt.toNat = 0 by omega]
    have e9 : (((4 ^ 0 : Nat)) : Int) = 1 := by decide
    rw [e9]
    omega
  exact ⟨p, fun _ => rfl, ⟨(fun q h => by cases h), fun q h => (by cases h), (fun f h => by cases h), (aAllc ⟨_, rfl, (fF_b (r := 833) (by decide) rfl).mpr q0⟩ (fun f h => by cases h))⟩, [], List.mem_cons_self, fun f h => (by cases h)⟩
set_option maxRecDepth 8192 in
theorem rw_ruXs1 {K : Nat → Nat} {n : Nat} : aGho (fF K n) fa_T K n (fJX K n) ag_ruXs1 := by
  refine aGho_of ⟨rfl, rfl⟩ ?_
  intro p σ ρ hH hX hA hM
  have hG := aAG_of hA.1 (fun i e v he hv => (hA.2 i e v he hv).1)
  clear hA
  obtain ⟨v0, v1, v2, v3, rfl, g0, g1, g2, g3⟩ := fA_4 hG
  clear hG
  obtain ⟨x0, rfl, b0, d0⟩ := fG_ref (by decide) g0
  obtain ⟨x1, rfl, b1, d1⟩ := aG_int g1
  dsimp only at b1 d1
  obtain ⟨x2, rfl, b2, d2⟩ := aG_int g2
  dsimp only at b2 d2
  obtain ⟨x3, rfl, b3, d3⟩ := aG_int g3
  dsimp only at b3 d3
  obtain ⟨m1, m2, m3, m4⟩ := hM
  obtain ⟨a0, c0, fs0, w0, e1, s0, t0, e4⟩ := m1 (0, 3, 2) (List.mem_of_getElem? (i := 0) rfl)
  obtain rfl : x0 = a0 := Sum.inl.inj (Option.some.inj (Sum.inr.inj (Sum.inr.inj (Option.some.inj (show some (fR x0) = some _ from e1)))))
  obtain rfl : fI x2 = w0 := Option.some.inj (show some (fI x2) = some w0 from e4)
  clear e1 e4
  obtain ⟨a1, c1, fs1, w1, e1, s1, t1, e4⟩ := m1 (0, 2, 3) (List.mem_of_getElem? (i := 1) rfl)
  obtain rfl : x0 = a1 := Sum.inl.inj (Option.some.inj (Sum.inr.inj (Sum.inr.inj (Option.some.inj (show some (fR x0) = some _ from e1)))))
  obtain rfl : fI x3 = w1 := Option.some.inj (show some (fI x3) = some w1 from e4)
  clear e1 e4
  have f0 : fB K n p 1 [fR x0] σ := by
    obtain ⟨w, e6, e7⟩ := m4 (17, [0]) (List.mem_of_getElem? (i := 0) rfl)
    obtain rfl : [fR x0] = w := Option.some.inj (show some [fR x0] = some w from e6)
    exact (fF_b (r := 17) (by decide) rfl).mp e7
  clear m1 m2 m3 m4
  obtain ⟨a9_0, e9_0, h0, g0⟩ := f0
  cases e9_0
  have hF := fAt_of h0 s0
  have hsd := hF.2.1 x3 (by rw [s0] at s1; cases s1; exact t1)
  have hrt := hF.2.2.1 x2 t0
  have q0 : fB K n (p) 52 [fI x1] σ := by
    refine (fE_o (by decide)).mpr ⟨x1, rfl, ?_⟩
    rw [← hrt, ← hsd, show x3.toInt.toNat = 0 by omega]
    have e9 : (((4 ^ 0 : Nat)) : Int) = 1 := by decide
    rw [e9]
    omega
  exact ⟨p, fun _ => rfl, ⟨(fun q h => by cases h), fun q h => (by cases h), (fun f h => by cases h), (aAllc ⟨_, rfl, (fF_b (r := 833) (by decide) rfl).mpr q0⟩ (fun f h => by cases h))⟩, [], List.mem_cons_self, fun f h => (by cases h)⟩
set_option maxRecDepth 8192 in
theorem rw_ruXs2 {K : Nat → Nat} {n : Nat} : aGho (fF K n) fa_T K n (fJX K n) ag_ruXs2 := by
  refine aGho_of ⟨rfl, rfl⟩ ?_
  intro p σ ρ hH hX hA hM
  have hG := aAG_of hA.1 (fun i e v he hv => (hA.2 i e v he hv).1)
  clear hA
  obtain ⟨v0, v1, v2, v3, rfl, g0, g1, g2, g3⟩ := fA_4 hG
  clear hG
  obtain ⟨x0, rfl, b0, d0⟩ := fG_ref (by decide) g0
  obtain ⟨x1, rfl, b1, d1⟩ := aG_int g1
  dsimp only at b1 d1
  obtain ⟨x2, rfl, b2, d2⟩ := aG_int g2
  dsimp only at b2 d2
  obtain ⟨x3, rfl, b3, d3⟩ := aG_int g3
  dsimp only at b3 d3
  obtain ⟨m1, m2, m3, m4⟩ := hM
  obtain ⟨a0, c0, fs0, w0, e1, s0, t0, e4⟩ := m1 (0, 3, 2) (List.mem_of_getElem? (i := 0) rfl)
  obtain rfl : x0 = a0 := Sum.inl.inj (Option.some.inj (Sum.inr.inj (Sum.inr.inj (Option.some.inj (show some (fR x0) = some _ from e1)))))
  obtain rfl : fI x2 = w0 := Option.some.inj (show some (fI x2) = some w0 from e4)
  clear e1 e4
  obtain ⟨a1, c1, fs1, w1, e1, s1, t1, e4⟩ := m1 (0, 2, 3) (List.mem_of_getElem? (i := 1) rfl)
  obtain rfl : x0 = a1 := Sum.inl.inj (Option.some.inj (Sum.inr.inj (Sum.inr.inj (Option.some.inj (show some (fR x0) = some _ from e1)))))
  obtain rfl : fI x3 = w1 := Option.some.inj (show some (fI x3) = some w1 from e4)
  clear e1 e4
  have f0 : fB K n p 1 [fR x0] σ := by
    obtain ⟨w, e6, e7⟩ := m4 (17, [0]) (List.mem_of_getElem? (i := 0) rfl)
    obtain rfl : [fR x0] = w := Option.some.inj (show some [fR x0] = some w from e6)
    exact (fF_b (r := 17) (by decide) rfl).mp e7
  clear m1 m2 m3 m4
  obtain ⟨a9_0, e9_0, h0, g0⟩ := f0
  cases e9_0
  have hF := fAt_of h0 s0
  have hsd := hF.2.1 x3 (by rw [s0] at s1; cases s1; exact t1)
  have hrt := hF.2.2.1 x2 t0
  have q0 : fB K n (p) 52 [fI x1] σ := by
    refine (fE_o (by decide)).mpr ⟨x1, rfl, ?_⟩
    rw [← hrt, ← hsd, show x3.toInt.toNat = 0 by omega]
    have e9 : (((4 ^ 0 : Nat)) : Int) = 1 := by decide
    rw [e9]
    omega
  exact ⟨p, fun _ => rfl, ⟨(fun q h => by cases h), fun q h => (by cases h), (fun f h => by cases h), (aAllc ⟨_, rfl, (fF_b (r := 833) (by decide) rfl).mpr q0⟩ (fun f h => by cases h))⟩, [], List.mem_cons_self, fun f h => (by cases h)⟩
set_option maxRecDepth 8192 in
theorem rw_ruXs3 {K : Nat → Nat} {n : Nat} : aGho (fF K n) fa_T K n (fJX K n) ag_ruXs3 := by
  refine aGho_of ⟨rfl, rfl⟩ ?_
  intro p σ ρ hH hX hA hM
  have hG := aAG_of hA.1 (fun i e v he hv => (hA.2 i e v he hv).1)
  clear hA
  obtain ⟨v0, v1, v2, v3, rfl, g0, g1, g2, g3⟩ := fA_4 hG
  clear hG
  obtain ⟨x0, rfl, b0, d0⟩ := fG_ref (by decide) g0
  obtain ⟨x1, rfl, b1, d1⟩ := aG_int g1
  dsimp only at b1 d1
  obtain ⟨x2, rfl, b2, d2⟩ := aG_int g2
  dsimp only at b2 d2
  obtain ⟨x3, rfl, b3, d3⟩ := aG_int g3
  dsimp only at b3 d3
  obtain ⟨m1, m2, m3, m4⟩ := hM
  obtain ⟨a0, c0, fs0, w0, e1, s0, t0, e4⟩ := m1 (0, 3, 2) (List.mem_of_getElem? (i := 0) rfl)
  obtain rfl : x0 = a0 := Sum.inl.inj (Option.some.inj (Sum.inr.inj (Sum.inr.inj (Option.some.inj (show some (fR x0) = some _ from e1)))))
  obtain rfl : fI x2 = w0 := Option.some.inj (show some (fI x2) = some w0 from e4)
  clear e1 e4
  obtain ⟨a1, c1, fs1, w1, e1, s1, t1, e4⟩ := m1 (0, 2, 3) (List.mem_of_getElem? (i := 1) rfl)
  obtain rfl : x0 = a1 := Sum.inl.inj (Option.some.inj (Sum.inr.inj (Sum.inr.inj (Option.some.inj (show some (fR x0) = some _ from e1)))))
  obtain rfl : fI x3 = w1 := Option.some.inj (show some (fI x3) = some w1 from e4)
  clear e1 e4
  have f0 : fB K n p 1 [fR x0] σ := by
    obtain ⟨w, e6, e7⟩ := m4 (17, [0]) (List.mem_of_getElem? (i := 0) rfl)
    obtain rfl : [fR x0] = w := Option.some.inj (show some [fR x0] = some w from e6)
    exact (fF_b (r := 17) (by decide) rfl).mp e7
  clear m1 m2 m3 m4
  obtain ⟨a9_0, e9_0, h0, g0⟩ := f0
  cases e9_0
  have hF := fAt_of h0 s0
  have hsd := hF.2.1 x3 (by rw [s0] at s1; cases s1; exact t1)
  have hrt := hF.2.2.1 x2 t0
  have q0 : fB K n (p) 52 [fI x1] σ := by
    refine (fE_o (by decide)).mpr ⟨x1, rfl, ?_⟩
    rw [← hrt, ← hsd, show x3.toInt.toNat = 0 by omega]
    have e9 : (((4 ^ 0 : Nat)) : Int) = 1 := by decide
    rw [e9]
    omega
  exact ⟨p, fun _ => rfl, ⟨(fun q h => by cases h), fun q h => (by cases h), (fun f h => by cases h), (aAllc ⟨_, rfl, (fF_b (r := 833) (by decide) rfl).mpr q0⟩ (fun f h => by cases h))⟩, [], List.mem_cons_self, fun f h => (by cases h)⟩
set_option maxRecDepth 8192 in
theorem rw_ruXs4 {K : Nat → Nat} {n : Nat} : aGho (fF K n) fa_T K n (fJX K n) ag_ruXs4 := by
  refine aGho_of ⟨rfl, rfl⟩ ?_
  intro p σ ρ hH hX hA hM
  have hG := aAG_of hA.1 (fun i e v he hv => (hA.2 i e v he hv).1)
  clear hA
  obtain ⟨v0, v1, v2, v3, rfl, g0, g1, g2, g3⟩ := fA_4 hG
  clear hG
  obtain ⟨x0, rfl, b0, d0⟩ := fG_ref (by decide) g0
  obtain ⟨x1, rfl, b1, d1⟩ := aG_int g1
  dsimp only at b1 d1
  obtain ⟨x2, rfl, b2, d2⟩ := aG_int g2
  dsimp only at b2 d2
  obtain ⟨x3, rfl, b3, d3⟩ := aG_int g3
  dsimp only at b3 d3
  obtain ⟨m1, m2, m3, m4⟩ := hM
  obtain ⟨a0, c0, fs0, w0, e1, s0, t0, e4⟩ := m1 (0, 3, 2) (List.mem_of_getElem? (i := 0) rfl)
  obtain rfl : x0 = a0 := Sum.inl.inj (Option.some.inj (Sum.inr.inj (Sum.inr.inj (Option.some.inj (show some (fR x0) = some _ from e1)))))
  obtain rfl : fI x2 = w0 := Option.some.inj (show some (fI x2) = some w0 from e4)
  clear e1 e4
  obtain ⟨a1, c1, fs1, w1, e1, s1, t1, e4⟩ := m1 (0, 2, 3) (List.mem_of_getElem? (i := 1) rfl)
  obtain rfl : x0 = a1 := Sum.inl.inj (Option.some.inj (Sum.inr.inj (Sum.inr.inj (Option.some.inj (show some (fR x0) = some _ from e1)))))
  obtain rfl : fI x3 = w1 := Option.some.inj (show some (fI x3) = some w1 from e4)
  clear e1 e4
  have f0 : fB K n p 1 [fR x0] σ := by
    obtain ⟨w, e6, e7⟩ := m4 (17, [0]) (List.mem_of_getElem? (i := 0) rfl)
    obtain rfl : [fR x0] = w := Option.some.inj (show some [fR x0] = some w from e6)
    exact (fF_b (r := 17) (by decide) rfl).mp e7
  clear m1 m2 m3 m4
  obtain ⟨a9_0, e9_0, h0, g0⟩ := f0
  cases e9_0
  have hF := fAt_of h0 s0
  have hsd := hF.2.1 x3 (by rw [s0] at s1; cases s1; exact t1)
  have hrt := hF.2.2.1 x2 t0
  have q0 : fB K n (p) 52 [fI x1] σ := by
    refine (fE_o (by decide)).mpr ⟨x1, rfl, ?_⟩
    rw [← hrt, ← hsd, show x3.toInt.toNat = 0 by omega]
    have e9 : (((4 ^ 0 : Nat)) : Int) = 1 := by decide
    rw [e9]
    omega
  exact ⟨p, fun _ => rfl, ⟨(fun q h => by cases h), fun q h => (by cases h), (fun f h => by cases h), (aAllc ⟨_, rfl, (fF_b (r := 833) (by decide) rfl).mpr q0⟩ (fun f h => by cases h))⟩, [], List.mem_cons_self, fun f h => (by cases h)⟩
set_option maxRecDepth 8192 in
theorem rw_ruXs5 {K : Nat → Nat} {n : Nat} : aGho (fF K n) fa_T K n (fJX K n) ag_ruXs5 := by
  refine aGho_of ⟨rfl, rfl⟩ ?_
  intro p σ ρ hH hX hA hM
  have hG := aAG_of hA.1 (fun i e v he hv => (hA.2 i e v he hv).1)
  clear hA
  obtain ⟨v0, v1, v2, v3, rfl, g0, g1, g2, g3⟩ := fA_4 hG
  clear hG
  obtain ⟨x0, rfl, b0, d0⟩ := fG_ref (by decide) g0
  obtain ⟨x1, rfl, b1, d1⟩ := aG_int g1
  dsimp only at b1 d1
  obtain ⟨x2, rfl, b2, d2⟩ := aG_int g2
  dsimp only at b2 d2
  obtain ⟨x3, rfl, b3, d3⟩ := aG_int g3
  dsimp only at b3 d3
  obtain ⟨m1, m2, m3, m4⟩ := hM
  obtain ⟨a0, c0, fs0, w0, e1, s0, t0, e4⟩ := m1 (0, 3, 2) (List.mem_of_getElem? (i := 0) rfl)
  obtain rfl : x0 = a0 := Sum.inl.inj (Option.some.inj (Sum.inr.inj (Sum.inr.inj (Option.some.inj (show some (fR x0) = some _ from e1)))))
  obtain rfl : fI x2 = w0 := Option.some.inj (show some (fI x2) = some w0 from e4)
  clear e1 e4
  obtain ⟨a1, c1, fs1, w1, e1, s1, t1, e4⟩ := m1 (0, 2, 3) (List.mem_of_getElem? (i := 1) rfl)
  obtain rfl : x0 = a1 := Sum.inl.inj (Option.some.inj (Sum.inr.inj (Sum.inr.inj (Option.some.inj (show some (fR x0) = some _ from e1)))))
  obtain rfl : fI x3 = w1 := Option.some.inj (show some (fI x3) = some w1 from e4)
  clear e1 e4
  have f0 : fB K n p 1 [fR x0] σ := by
    obtain ⟨w, e6, e7⟩ := m4 (17, [0]) (List.mem_of_getElem? (i := 0) rfl)
    obtain rfl : [fR x0] = w := Option.some.inj (show some [fR x0] = some w from e6)
    exact (fF_b (r := 17) (by decide) rfl).mp e7
  clear m1 m2 m3 m4
  obtain ⟨a9_0, e9_0, h0, g0⟩ := f0
  cases e9_0
  have hF := fAt_of h0 s0
  have hsd := hF.2.1 x3 (by rw [s0] at s1; cases s1; exact t1)
  have hrt := hF.2.2.1 x2 t0
  have q0 : fB K n (p) 52 [fI x1] σ := by
    refine (fE_o (by decide)).mpr ⟨x1, rfl, ?_⟩
    rw [← hrt, ← hsd, show x3.toInt.toNat = 0 by omega]
    have e9 : (((4 ^ 0 : Nat)) : Int) = 1 := by decide
    rw [e9]
    omega
  exact ⟨p, fun _ => rfl, ⟨(fun q h => by cases h), fun q h => (by cases h), (fun f h => by cases h), (aAllc ⟨_, rfl, (fF_b (r := 833) (by decide) rfl).mpr q0⟩ (fun f h => by cases h))⟩, [], List.mem_cons_self, fun f h => (by cases h)⟩
set_option maxRecDepth 8192 in
theorem rw_ruXs6 {K : Nat → Nat} {n : Nat} : aGho (fF K n) fa_T K n (fJX K n) ag_ruXs6 := by
  refine aGho_of ⟨rfl, rfl⟩ ?_
  intro p σ ρ hH hX hA hM
  have hG := aAG_of hA.1 (fun i e v he hv => (hA.2 i e v he hv).1)
  clear hA
  obtain ⟨v0, v1, v2, v3, rfl, g0, g1, g2, g3⟩ := fA_4 hG
  clear hG
  obtain ⟨x0, rfl, b0, d0⟩ := fG_ref (by decide) g0
  obtain ⟨x1, rfl, b1, d1⟩ := aG_int g1
  dsimp only at b1 d1
  obtain ⟨x2, rfl, b2, d2⟩ := aG_int g2
  dsimp only at b2 d2
  obtain ⟨x3, rfl, b3, d3⟩ := aG_int g3
  dsimp only at b3 d3
  obtain ⟨m1, m2, m3, m4⟩ := hM
  obtain ⟨a0, c0, fs0, w0, e1, s0, t0, e4⟩ := m1 (0, 3, 2) (List.mem_of_getElem? (i := 0) rfl)
  obtain rfl : x0 = a0 := Sum.inl.inj (Option.some.inj (Sum.inr.inj (Sum.inr.inj (Option.some.inj (show some (fR x0) = some _ from e1)))))
  obtain rfl : fI x2 = w0 := Option.some.inj (show some (fI x2) = some w0 from e4)
  clear e1 e4
  obtain ⟨a1, c1, fs1, w1, e1, s1, t1, e4⟩ := m1 (0, 2, 3) (List.mem_of_getElem? (i := 1) rfl)
  obtain rfl : x0 = a1 := Sum.inl.inj (Option.some.inj (Sum.inr.inj (Sum.inr.inj (Option.some.inj (show some (fR x0) = some _ from e1)))))
  obtain rfl : fI x3 = w1 := Option.some.inj (show some (fI x3) = some w1 from e4)
  clear e1 e4
  have f0 : fB K n p 1 [fR x0] σ := by
    obtain ⟨w, e6, e7⟩ := m4 (17, [0]) (List.mem_of_getElem? (i := 0) rfl)
    obtain rfl : [fR x0] = w := Option.some.inj (show some [fR x0] = some w from e6)
    exact (fF_b (r := 17) (by decide) rfl).mp e7
  clear m1 m2 m3 m4
  obtain ⟨a9_0, e9_0, h0, g0⟩ := f0
  cases e9_0
  have hF := fAt_of h0 s0
  have hsd := hF.2.1 x3 (by rw [s0] at s1; cases s1; exact t1)
  have hrt := hF.2.2.1 x2 t0
  have q0 : fB K n (p) 52 [fI x1] σ := by
    refine (fE_o (by decide)).mpr ⟨x1, rfl, ?_⟩
    rw [← hrt, ← hsd, show x3.toInt.toNat = 0 by omega]
    have e9 : (((4 ^ 0 : Nat)) : Int) = 1 := by decide
    rw [e9]
    omega
  exact ⟨p, fun _ => rfl, ⟨(fun q h => by cases h), fun q h => (by cases h), (fun f h => by cases h), (aAllc ⟨_, rfl, (fF_b (r := 833) (by decide) rfl).mpr q0⟩ (fun f h => by cases h))⟩, [], List.mem_cons_self, fun f h => (by cases h)⟩
set_option maxRecDepth 8192 in
theorem rw_ruXs7 {K : Nat → Nat} {n : Nat} : aGho (fF K n) fa_T K n (fJX K n) ag_ruXs7 := by
  refine aGho_of ⟨rfl, rfl⟩ ?_
  intro p σ ρ hH hX hA hM
  have hG := aAG_of hA.1 (fun i e v he hv => (hA.2 i e v he hv).1)
  clear hA
  obtain ⟨v0, v1, v2, v3, rfl, g0, g1, g2, g3⟩ := fA_4 hG
  clear hG
  obtain ⟨x0, rfl, b0, d0⟩ := fG_ref (by decide) g0
  obtain ⟨x1, rfl, b1, d1⟩ := aG_int g1
  dsimp only at b1 d1
  obtain ⟨x2, rfl, b2, d2⟩ := aG_int g2
  dsimp only at b2 d2
  obtain ⟨x3, rfl, b3, d3⟩ := aG_int g3
  dsimp only at b3 d3
  obtain ⟨m1, m2, m3, m4⟩ := hM
  obtain ⟨a0, c0, fs0, w0, e1, s0, t0, e4⟩ := m1 (0, 3, 2) (List.mem_of_getElem? (i := 0) rfl)
  obtain rfl : x0 = a0 := Sum.inl.inj (Option.some.inj (Sum.inr.inj (Sum.inr.inj (Option.some.inj (show some (fR x0) = some _ from e1)))))
  obtain rfl : fI x2 = w0 := Option.some.inj (show some (fI x2) = some w0 from e4)
  clear e1 e4
  obtain ⟨a1, c1, fs1, w1, e1, s1, t1, e4⟩ := m1 (0, 2, 3) (List.mem_of_getElem? (i := 1) rfl)
  obtain rfl : x0 = a1 := Sum.inl.inj (Option.some.inj (Sum.inr.inj (Sum.inr.inj (Option.some.inj (show some (fR x0) = some _ from e1)))))
  obtain rfl : fI x3 = w1 := Option.some.inj (show some (fI x3) = some w1 from e4)
  clear e1 e4
  have f0 : fB K n p 1 [fR x0] σ := by
    obtain ⟨w, e6, e7⟩ := m4 (17, [0]) (List.mem_of_getElem? (i := 0) rfl)
    obtain rfl : [fR x0] = w := Option.some.inj (show some [fR x0] = some w from e6)
    exact (fF_b (r := 17) (by decide) rfl).mp e7
  clear m1 m2 m3 m4
  obtain ⟨a9_0, e9_0, h0, g0⟩ := f0
  cases e9_0
  have hF := fAt_of h0 s0
  have hsd := hF.2.1 x3 (by rw [s0] at s1; cases s1; exact t1)
  have hrt := hF.2.2.1 x2 t0
  have q0 : fB K n (p) 52 [fI x1] σ := by
    refine (fE_o (by decide)).mpr ⟨x1, rfl, ?_⟩
    rw [← hrt, ← hsd, show x3.toInt.toNat = 0 by omega]
    have e9 : (((4 ^ 0 : Nat)) : Int) = 1 := by decide
    rw [e9]
    omega
  exact ⟨p, fun _ => rfl, ⟨(fun q h => by cases h), fun q h => (by cases h), (fun f h => by cases h), (aAllc ⟨_, rfl, (fF_b (r := 833) (by decide) rfl).mpr q0⟩ (fun f h => by cases h))⟩, [], List.mem_cons_self, fun f h => (by cases h)⟩
set_option maxRecDepth 8192 in
theorem rw_ruXs8 {K : Nat → Nat} {n : Nat} : aGho (fF K n) fa_T K n (fJX K n) ag_ruXs8 := by
  refine aGho_of ⟨rfl, rfl⟩ ?_
  intro p σ ρ hH hX hA hM
  have hG := aAG_of hA.1 (fun i e v he hv => (hA.2 i e v he hv).1)
  clear hA
  obtain ⟨v0, v1, v2, v3, rfl, g0, g1, g2, g3⟩ := fA_4 hG
  clear hG
  obtain ⟨x0, rfl, b0, d0⟩ := fG_ref (by decide) g0
  obtain ⟨x1, rfl, b1, d1⟩ := aG_int g1
  dsimp only at b1 d1
  obtain ⟨x2, rfl, b2, d2⟩ := aG_int g2
  dsimp only at b2 d2
  obtain ⟨x3, rfl, b3, d3⟩ := aG_int g3
  dsimp only at b3 d3
  obtain ⟨m1, m2, m3, m4⟩ := hM
  obtain ⟨a0, c0, fs0, w0, e1, s0, t0, e4⟩ := m1 (0, 3, 2) (List.mem_of_getElem? (i := 0) rfl)
  obtain rfl : x0 = a0 := Sum.inl.inj (Option.some.inj (Sum.inr.inj (Sum.inr.inj (Option.some.inj (show some (fR x0) = some _ from e1)))))
  obtain rfl : fI x2 = w0 := Option.some.inj (show some (fI x2) = some w0 from e4)
  clear e1 e4
  obtain ⟨a1, c1, fs1, w1, e1, s1, t1, e4⟩ := m1 (0, 2, 3) (List.mem_of_getElem? (i := 1) rfl)
  obtain rfl : x0 = a1 := Sum.inl.inj (Option.some.inj (Sum.inr.inj (Sum.inr.inj (Option.some.inj (show some (fR x0) = some _ from e1)))))
  obtain rfl : fI x3 = w1 := Option.some.inj (show some (fI x3) = some w1 from e4)
  clear e1 e4
  have f0 : fB K n p 1 [fR x0] σ := by
    obtain ⟨w, e6, e7⟩ := m4 (17, [0]) (List.mem_of_getElem? (i := 0) rfl)
    obtain rfl : [fR x0] = w := Option.some.inj (show some [fR x0] = some w from e6)
    exact (fF_b (r := 17) (by decide) rfl).mp e7
  clear m1 m2 m3 m4
  obtain ⟨a9_0, e9_0, h0, g0⟩ := f0
  cases e9_0
  have hF := fAt_of h0 s0
  have hsd := hF.2.1 x3 (by rw [s0] at s1; cases s1; exact t1)
  have hrt := hF.2.2.1 x2 t0
  have q0 : fB K n (p) 52 [fI x1] σ := by
    refine (fE_o (by decide)).mpr ⟨x1, rfl, ?_⟩
    rw [← hrt, ← hsd, show x3.toInt.toNat = 1 by omega]
    have e9 : (((4 ^ 1 : Nat)) : Int) = 4 := by decide
    rw [e9]
    omega
  exact ⟨p, fun _ => rfl, ⟨(fun q h => by cases h), fun q h => (by cases h), (fun f h => by cases h), (aAllc ⟨_, rfl, (fF_b (r := 833) (by decide) rfl).mpr q0⟩ (fun f h => by cases h))⟩, [], List.mem_cons_self, fun f h => (by cases h)⟩
set_option maxRecDepth 8192 in
theorem rw_ruXs9 {K : Nat → Nat} {n : Nat} : aGho (fF K n) fa_T K n (fJX K n) ag_ruXs9 := by
  refine aGho_of ⟨rfl, rfl⟩ ?_
  intro p σ ρ hH hX hA hM
  have hG := aAG_of hA.1 (fun i e v he hv => (hA.2 i e v he hv).1)
  clear hA
  obtain ⟨v0, v1, v2, v3, rfl, g0, g1, g2, g3⟩ := fA_4 hG
  clear hG
  obtain ⟨x0, rfl, b0, d0⟩ := fG_ref (by decide) g0
  obtain ⟨x1, rfl, b1, d1⟩ := aG_int g1
  dsimp only at b1 d1
  obtain ⟨x2, rfl, b2, d2⟩ := aG_int g2
  dsimp only at b2 d2
  obtain ⟨x3, rfl, b3, d3⟩ := aG_int g3
  dsimp only at b3 d3
  obtain ⟨m1, m2, m3, m4⟩ := hM
  obtain ⟨a0, c0, fs0, w0, e1, s0, t0, e4⟩ := m1 (0, 3, 2) (List.mem_of_getElem? (i := 0) rfl)
  obtain rfl : x0 = a0 := Sum.inl.inj (Option.some.inj (Sum.inr.inj (Sum.inr.inj (Option.some.inj (show some (fR x0) = some _ from e1)))))
  obtain rfl : fI x2 = w0 := Option.some.inj (show some (fI x2) = some w0 from e4)
  clear e1 e4
  obtain ⟨a1, c1, fs1, w1, e1, s1, t1, e4⟩ := m1 (0, 2, 3) (List.mem_of_getElem? (i := 1) rfl)
  obtain rfl : x0 = a1 := Sum.inl.inj (Option.some.inj (Sum.inr.inj (Sum.inr.inj (Option.some.inj (show some (fR x0) = some _ from e1)))))
  obtain rfl : fI x3 = w1 := Option.some.inj (show some (fI x3) = some w1 from e4)
  clear e1 e4
  have f0 : fB K n p 1 [fR x0] σ := by
    obtain ⟨w, e6, e7⟩ := m4 (17, [0]) (List.mem_of_getElem? (i := 0) rfl)
    obtain rfl : [fR x0] = w := Option.some.inj (show some [fR x0] = some w from e6)
    exact (fF_b (r := 17) (by decide) rfl).mp e7
  clear m1 m2 m3 m4
  obtain ⟨a9_0, e9_0, h0, g0⟩ := f0
  cases e9_0
  have hF := fAt_of h0 s0
  have hsd := hF.2.1 x3 (by rw [s0] at s1; cases s1; exact t1)
  have hrt := hF.2.2.1 x2 t0
  have q0 : fB K n (p) 52 [fI x1] σ := by
    refine (fE_o (by decide)).mpr ⟨x1, rfl, ?_⟩
    rw [← hrt, ← hsd, show x3.toInt.toNat = 1 by omega]
    have e9 : (((4 ^ 1 : Nat)) : Int) = 4 := by decide
    rw [e9]
    omega
  exact ⟨p, fun _ => rfl, ⟨(fun q h => by cases h), fun q h => (by cases h), (fun f h => by cases h), (aAllc ⟨_, rfl, (fF_b (r := 833) (by decide) rfl).mpr q0⟩ (fun f h => by cases h))⟩, [], List.mem_cons_self, fun f h => (by cases h)⟩
set_option maxRecDepth 8192 in
theorem rw_ruXl10 {K : Nat → Nat} {n : Nat} : aGho (fF K n) fa_T K n (fJX K n) ag_ruXl10 := by
  refine aGho_of ⟨rfl, rfl⟩ ?_
  intro p σ ρ hH hX hA hM
  have hG := aAG_of hA.1 (fun i e v he hv => (hA.2 i e v he hv).1)
  clear hA
  obtain ⟨v0, v1, v2, v3, rfl, g0, g1, g2, g3⟩ := fA_4 hG
  clear hG
  obtain ⟨x0, rfl, b0, d0⟩ := fG_ref (by decide) g0
  obtain ⟨x1, rfl, b1, d1⟩ := aG_int g1
  dsimp only at b1 d1
  obtain ⟨x2, rfl, b2, d2⟩ := aG_int g2
  dsimp only at b2 d2
  obtain ⟨x3, rfl, b3, d3⟩ := aG_int g3
  dsimp only at b3 d3
  obtain ⟨m1, m2, m3, m4⟩ := hM
  obtain ⟨a0, c0, fs0, w0, e1, s0, t0, e4⟩ := m1 (0, 3, 2) (List.mem_of_getElem? (i := 0) rfl)
  obtain rfl : x0 = a0 := Sum.inl.inj (Option.some.inj (Sum.inr.inj (Sum.inr.inj (Option.some.inj (show some (fR x0) = some _ from e1)))))
  obtain rfl : fI x2 = w0 := Option.some.inj (show some (fI x2) = some w0 from e4)
  clear e1 e4
  obtain ⟨a1, c1, fs1, w1, e1, s1, t1, e4⟩ := m1 (0, 2, 3) (List.mem_of_getElem? (i := 1) rfl)
  obtain rfl : x0 = a1 := Sum.inl.inj (Option.some.inj (Sum.inr.inj (Sum.inr.inj (Option.some.inj (show some (fR x0) = some _ from e1)))))
  obtain rfl : fI x3 = w1 := Option.some.inj (show some (fI x3) = some w1 from e4)
  clear e1 e4
  have f0 : fB K n p 1 [fR x0] σ := by
    obtain ⟨w, e6, e7⟩ := m4 (17, [0]) (List.mem_of_getElem? (i := 0) rfl)
    obtain rfl : [fR x0] = w := Option.some.inj (show some [fR x0] = some w from e6)
    exact (fF_b (r := 17) (by decide) rfl).mp e7
  clear m1 m2 m3 m4
  obtain ⟨a9_0, e9_0, h0, g0⟩ := f0
  cases e9_0
  have hF := fAt_of h0 s0
  have hsd := hF.2.1 x3 (by rw [s0] at s1; cases s1; exact t1)
  have hrt := hF.2.2.1 x2 t0
  have q0 : fB K n (p) 54 [fI x1] σ := by
    refine (fE_o (by decide)).mpr ⟨x1, rfl, ?_⟩
    rw [← hrt, ← hsd, show x3.toInt.toNat = 0 by omega]
    have e9 : (((2 * 4 ^ 0 : Nat)) : Int) = 2 := by decide
    rw [e9]
    omega
  exact ⟨p, fun _ => rfl, ⟨(fun q h => by cases h), fun q h => (by cases h), (fun f h => by cases h), (aAllc ⟨_, rfl, (fF_b (r := 865) (by decide) rfl).mpr q0⟩ (fun f h => by cases h))⟩, [], List.mem_cons_self, fun f h => (by cases h)⟩
set_option maxRecDepth 8192 in
theorem rw_ruXl11 {K : Nat → Nat} {n : Nat} : aGho (fF K n) fa_T K n (fJX K n) ag_ruXl11 := by
  refine aGho_of ⟨rfl, rfl⟩ ?_
  intro p σ ρ hH hX hA hM
  have hG := aAG_of hA.1 (fun i e v he hv => (hA.2 i e v he hv).1)
  clear hA
  obtain ⟨v0, v1, v2, v3, rfl, g0, g1, g2, g3⟩ := fA_4 hG
  clear hG
  obtain ⟨x0, rfl, b0, d0⟩ := fG_ref (by decide) g0
  obtain ⟨x1, rfl, b1, d1⟩ := aG_int g1
  dsimp only at b1 d1
  obtain ⟨x2, rfl, b2, d2⟩ := aG_int g2
  dsimp only at b2 d2
  obtain ⟨x3, rfl, b3, d3⟩ := aG_int g3
  dsimp only at b3 d3
  obtain ⟨m1, m2, m3, m4⟩ := hM
  obtain ⟨a0, c0, fs0, w0, e1, s0, t0, e4⟩ := m1 (0, 3, 2) (List.mem_of_getElem? (i := 0) rfl)
  obtain rfl : x0 = a0 := Sum.inl.inj (Option.some.inj (Sum.inr.inj (Sum.inr.inj (Option.some.inj (show some (fR x0) = some _ from e1)))))
  obtain rfl : fI x2 = w0 := Option.some.inj (show some (fI x2) = some w0 from e4)
  clear e1 e4
  obtain ⟨a1, c1, fs1, w1, e1, s1, t1, e4⟩ := m1 (0, 2, 3) (List.mem_of_getElem? (i := 1) rfl)
  obtain rfl : x0 = a1 := Sum.inl.inj (Option.some.inj (Sum.inr.inj (Sum.inr.inj (Option.some.inj (show some (fR x0) = some _ from e1)))))
  obtain rfl : fI x3 = w1 := Option.some.inj (show some (fI x3) = some w1 from e4)
  clear e1 e4
  have f0 : fB K n p 1 [fR x0] σ := by
    obtain ⟨w, e6, e7⟩ := m4 (17, [0]) (List.mem_of_getElem? (i := 0) rfl)
    obtain rfl : [fR x0] = w := Option.some.inj (show some [fR x0] = some w from e6)
    exact (fF_b (r := 17) (by decide) rfl).mp e7
  clear m1 m2 m3 m4
  obtain ⟨a9_0, e9_0, h0, g0⟩ := f0
  cases e9_0
  have hF := fAt_of h0 s0
  have hsd := hF.2.1 x3 (by rw [s0] at s1; cases s1; exact t1)
  have hrt := hF.2.2.1 x2 t0
  have q0 : fB K n (p) 54 [fI x1] σ := by
    refine (fE_o (by decide)).mpr ⟨x1, rfl, ?_⟩
    rw [← hrt, ← hsd, show x3.toInt.toNat = 0 by omega]
    have e9 : (((2 * 4 ^ 0 : Nat)) : Int) = 2 := by decide
    rw [e9]
    omega
  exact ⟨p, fun _ => rfl, ⟨(fun q h => by cases h), fun q h => (by cases h), (fun f h => by cases h), (aAllc ⟨_, rfl, (fF_b (r := 865) (by decide) rfl).mpr q0⟩ (fun f h => by cases h))⟩, [], List.mem_cons_self, fun f h => (by cases h)⟩
set_option maxRecDepth 8192 in
theorem rw_ruXl12 {K : Nat → Nat} {n : Nat} : aGho (fF K n) fa_T K n (fJX K n) ag_ruXl12 := by
  refine aGho_of ⟨rfl, rfl⟩ ?_
  intro p σ ρ hH hX hA hM
  have hG := aAG_of hA.1 (fun i e v he hv => (hA.2 i e v he hv).1)
  clear hA
  obtain ⟨v0, v1, v2, v3, rfl, g0, g1, g2, g3⟩ := fA_4 hG
  clear hG
  obtain ⟨x0, rfl, b0, d0⟩ := fG_ref (by decide) g0
  obtain ⟨x1, rfl, b1, d1⟩ := aG_int g1
  dsimp only at b1 d1
  obtain ⟨x2, rfl, b2, d2⟩ := aG_int g2
  dsimp only at b2 d2
  obtain ⟨x3, rfl, b3, d3⟩ := aG_int g3
  dsimp only at b3 d3
  obtain ⟨m1, m2, m3, m4⟩ := hM
  obtain ⟨a0, c0, fs0, w0, e1, s0, t0, e4⟩ := m1 (0, 3, 2) (List.mem_of_getElem? (i := 0) rfl)
  obtain rfl : x0 = a0 := Sum.inl.inj (Option.some.inj (Sum.inr.inj (Sum.inr.inj (Option.some.inj (show some (fR x0) = some _ from e1)))))
  obtain rfl : fI x2 = w0 := Option.some.inj (show some (fI x2) = some w0 from e4)
  clear e1 e4
  obtain ⟨a1, c1, fs1, w1, e1, s1, t1, e4⟩ := m1 (0, 2, 3) (List.mem_of_getElem? (i := 1) rfl)
  obtain rfl : x0 = a1 := Sum.inl.inj (Option.some.inj (Sum.inr.inj (Sum.inr.inj (Option.some.inj (show some (fR x0) = some _ from e1)))))
  obtain rfl : fI x3 = w1 := Option.some.inj (show some (fI x3) = some w1 from e4)
  clear e1 e4
  have f0 : fB K n p 1 [fR x0] σ := by
    obtain ⟨w, e6, e7⟩ := m4 (17, [0]) (List.mem_of_getElem? (i := 0) rfl)
    obtain rfl : [fR x0] = w := Option.some.inj (show some [fR x0] = some w from e6)
    exact (fF_b (r := 17) (by decide) rfl).mp e7
  clear m1 m2 m3 m4
  obtain ⟨a9_0, e9_0, h0, g0⟩ := f0
  cases e9_0
  have hF := fAt_of h0 s0
  have hsd := hF.2.1 x3 (by rw [s0] at s1; cases s1; exact t1)
  have hrt := hF.2.2.1 x2 t0
  have q0 : fB K n (p) 54 [fI x1] σ := by
    refine (fE_o (by decide)).mpr ⟨x1, rfl, ?_⟩
    rw [← hrt, ← hsd, show x3.toInt.toNat = 0 by omega]
    have e9 : (((2 * 4 ^ 0 : Nat)) : Int) = 2 := by decide
    rw [e9]
    omega
  exact ⟨p, fun _ => rfl, ⟨(fun q h => by cases h), fun q h => (by cases h), (fun f h => by cases h), (aAllc ⟨_, rfl, (fF_b (r := 865) (by decide) rfl).mpr q0⟩ (fun f h => by cases h))⟩, [], List.mem_cons_self, fun f h => (by cases h)⟩
set_option maxRecDepth 8192 in
theorem rw_ruXl13 {K : Nat → Nat} {n : Nat} : aGho (fF K n) fa_T K n (fJX K n) ag_ruXl13 := by
  refine aGho_of ⟨rfl, rfl⟩ ?_
  intro p σ ρ hH hX hA hM
  have hG := aAG_of hA.1 (fun i e v he hv => (hA.2 i e v he hv).1)
  clear hA
  obtain ⟨v0, v1, v2, v3, rfl, g0, g1, g2, g3⟩ := fA_4 hG
  clear hG
  obtain ⟨x0, rfl, b0, d0⟩ := fG_ref (by decide) g0
  obtain ⟨x1, rfl, b1, d1⟩ := aG_int g1
  dsimp only at b1 d1
  obtain ⟨x2, rfl, b2, d2⟩ := aG_int g2
  dsimp only at b2 d2
  obtain ⟨x3, rfl, b3, d3⟩ := aG_int g3
  dsimp only at b3 d3
  obtain ⟨m1, m2, m3, m4⟩ := hM
  obtain ⟨a0, c0, fs0, w0, e1, s0, t0, e4⟩ := m1 (0, 3, 2) (List.mem_of_getElem? (i := 0) rfl)
  obtain rfl : x0 = a0 := Sum.inl.inj (Option.some.inj (Sum.inr.inj (Sum.inr.inj (Option.some.inj (show some (fR x0) = some _ from e1)))))
  obtain rfl : fI x2 = w0 := Option.some.inj (show some (fI x2) = some w0 from e4)
  clear e1 e4
  obtain ⟨a1, c1, fs1, w1, e1, s1, t1, e4⟩ := m1 (0, 2, 3) (List.mem_of_getElem? (i := 1) rfl)
  obtain rfl : x0 = a1 := Sum.inl.inj (Option.some.inj (Sum.inr.inj (Sum.inr.inj (Option.some.inj (show some (fR x0) = some _ from e1)))))
  obtain rfl : fI x3 = w1 := Option.some.inj (show some (fI x3) = some w1 from e4)
  clear e1 e4
  have f0 : fB K n p 1 [fR x0] σ := by
    obtain ⟨w, e6, e7⟩ := m4 (17, [0]) (List.mem_of_getElem? (i := 0) rfl)
    obtain rfl : [fR x0] = w := Option.some.inj (show some [fR x0] = some w from e6)
    exact (fF_b (r := 17) (by decide) rfl).mp e7
  clear m1 m2 m3 m4
  obtain ⟨a9_0, e9_0, h0, g0⟩ := f0
  cases e9_0
  have hF := fAt_of h0 s0
  have hsd := hF.2.1 x3 (by rw [s0] at s1; cases s1; exact t1)
  have hrt := hF.2.2.1 x2 t0
  have q0 : fB K n (p) 54 [fI x1] σ := by
    refine (fE_o (by decide)).mpr ⟨x1, rfl, ?_⟩
    rw [← hrt, ← hsd, show x3.toInt.toNat = 0 by omega]
    have e9 : (((2 * 4 ^ 0 : Nat)) : Int) = 2 := by decide
    rw [e9]
    omega
  exact ⟨p, fun _ => rfl, ⟨(fun q h => by cases h), fun q h => (by cases h), (fun f h => by cases h), (aAllc ⟨_, rfl, (fF_b (r := 865) (by decide) rfl).mpr q0⟩ (fun f h => by cases h))⟩, [], List.mem_cons_self, fun f h => (by cases h)⟩
set_option maxRecDepth 8192 in
theorem rw_ruXl14 {K : Nat → Nat} {n : Nat} : aGho (fF K n) fa_T K n (fJX K n) ag_ruXl14 := by
  refine aGho_of ⟨rfl, rfl⟩ ?_
  intro p σ ρ hH hX hA hM
  have hG := aAG_of hA.1 (fun i e v he hv => (hA.2 i e v he hv).1)
  clear hA
  obtain ⟨v0, v1, v2, v3, rfl, g0, g1, g2, g3⟩ := fA_4 hG
  clear hG
  obtain ⟨x0, rfl, b0, d0⟩ := fG_ref (by decide) g0
  obtain ⟨x1, rfl, b1, d1⟩ := aG_int g1
  dsimp only at b1 d1
  obtain ⟨x2, rfl, b2, d2⟩ := aG_int g2
  dsimp only at b2 d2
  obtain ⟨x3, rfl, b3, d3⟩ := aG_int g3
  dsimp only at b3 d3
  obtain ⟨m1, m2, m3, m4⟩ := hM
  obtain ⟨a0, c0, fs0, w0, e1, s0, t0, e4⟩ := m1 (0, 3, 2) (List.mem_of_getElem? (i := 0) rfl)
  obtain rfl : x0 = a0 := Sum.inl.inj (Option.some.inj (Sum.inr.inj (Sum.inr.inj (Option.some.inj (show some (fR x0) = some _ from e1)))))
  obtain rfl : fI x2 = w0 := Option.some.inj (show some (fI x2) = some w0 from e4)
  clear e1 e4
  obtain ⟨a1, c1, fs1, w1, e1, s1, t1, e4⟩ := m1 (0, 2, 3) (List.mem_of_getElem? (i := 1) rfl)
  obtain rfl : x0 = a1 := Sum.inl.inj (Option.some.inj (Sum.inr.inj (Sum.inr.inj (Option.some.inj (show some (fR x0) = some _ from e1)))))
  obtain rfl : fI x3 = w1 := Option.some.inj (show some (fI x3) = some w1 from e4)
  clear e1 e4
  have f0 : fB K n p 1 [fR x0] σ := by
    obtain ⟨w, e6, e7⟩ := m4 (17, [0]) (List.mem_of_getElem? (i := 0) rfl)
    obtain rfl : [fR x0] = w := Option.some.inj (show some [fR x0] = some w from e6)
    exact (fF_b (r := 17) (by decide) rfl).mp e7
  clear m1 m2 m3 m4
  obtain ⟨a9_0, e9_0, h0, g0⟩ := f0
  cases e9_0
  have hF := fAt_of h0 s0
  have hsd := hF.2.1 x3 (by rw [s0] at s1; cases s1; exact t1)
  have hrt := hF.2.2.1 x2 t0
  have q0 : fB K n (p) 54 [fI x1] σ := by
    refine (fE_o (by decide)).mpr ⟨x1, rfl, ?_⟩
    rw [← hrt, ← hsd, show x3.toInt.toNat = 1 by omega]
    have e9 : (((2 * 4 ^ 1 : Nat)) : Int) = 8 := by decide
    rw [e9]
    omega
  exact ⟨p, fun _ => rfl, ⟨(fun q h => by cases h), fun q h => (by cases h), (fun f h => by cases h), (aAllc ⟨_, rfl, (fF_b (r := 865) (by decide) rfl).mpr q0⟩ (fun f h => by cases h))⟩, [], List.mem_cons_self, fun f h => (by cases h)⟩
set_option maxRecDepth 8192 in
theorem rw_ruNEa {K : Nat → Nat} {n : Nat} : aGho (fF K n) fa_T K n (fJX K n) ag_ruNEa := by
  refine aGho_of ⟨rfl, rfl⟩ ?_
  intro p σ ρ hH hX hA hM
  have hG := aAG_of hA.1 (fun i e v he hv => (hA.2 i e v he hv).1)
  clear hA
  obtain ⟨v0, v1, rfl, g0, g1⟩ := fA_2 hG
  clear hG
  obtain ⟨x0, rfl, b0, d0⟩ := aG_int g0
  dsimp only at b0 d0
  obtain ⟨x1, rfl, b1, d1⟩ := aG_int g1
  dsimp only at b1 d1
  obtain ⟨m1, m2, m3, m4⟩ := hM
  have l0 : 0 ≤ (1 * x0.toInt + (-1 * x1.toInt + 0)) + -1 := by
    obtain ⟨z, e6, e7⟩ := m3 ([(0, 1), (1, -1)], -1) (List.mem_of_getElem? (i := 0) rfl)
    obtain rfl : (1 * x0.toInt + (-1 * x1.toInt + 0)) = z := Option.some.inj (show some (1 * x0.toInt + (-1 * x1.toInt + 0)) = some z from e6)
    exact e7
  clear m1 m2 m3 m4
  have q0 : fB K n (p) 210 [fI x0, fI x1] σ := by
    refine (fP_o (by decide)).mpr ⟨x0, x1, rfl, by omega⟩
  exact ⟨p, fun _ => rfl, ⟨(fun q h => by cases h), fun q h => (by cases h), (fun f h => by cases h), (aAllc ⟨_, rfl, (fF_b (r := 3362) (by decide) rfl).mpr q0⟩ (fun f h => by cases h))⟩, [], List.mem_cons_self, fun f h => (by cases h)⟩
set_option maxRecDepth 8192 in
theorem rw_ruNEb {K : Nat → Nat} {n : Nat} : aGho (fF K n) fa_T K n (fJX K n) ag_ruNEb := by
  refine aGho_of ⟨rfl, rfl⟩ ?_
  intro p σ ρ hH hX hA hM
  have hG := aAG_of hA.1 (fun i e v he hv => (hA.2 i e v he hv).1)
  clear hA
  obtain ⟨v0, v1, rfl, g0, g1⟩ := fA_2 hG
  clear hG
  obtain ⟨x0, rfl, b0, d0⟩ := aG_int g0
  dsimp only at b0 d0
  obtain ⟨x1, rfl, b1, d1⟩ := aG_int g1
  dsimp only at b1 d1
  obtain ⟨m1, m2, m3, m4⟩ := hM
  have l0 : 0 ≤ (-1 * x0.toInt + (1 * x1.toInt + 0)) + -1 := by
    obtain ⟨z, e6, e7⟩ := m3 ([(0, -1), (1, 1)], -1) (List.mem_of_getElem? (i := 0) rfl)
    obtain rfl : (-1 * x0.toInt + (1 * x1.toInt + 0)) = z := Option.some.inj (show some (-1 * x0.toInt + (1 * x1.toInt + 0)) = some z from e6)
    exact e7
  clear m1 m2 m3 m4
  have q0 : fB K n (p) 210 [fI x0, fI x1] σ := by
    refine (fP_o (by decide)).mpr ⟨x0, x1, rfl, by omega⟩
  exact ⟨p, fun _ => rfl, ⟨(fun q h => by cases h), fun q h => (by cases h), (fun f h => by cases h), (aAllc ⟨_, rfl, (fF_b (r := 3362) (by decide) rfl).mpr q0⟩ (fun f h => by cases h))⟩, [], List.mem_cons_self, fun f h => (by cases h)⟩
set_option maxRecDepth 8192 in
theorem rw_ruPO {K : Nat → Nat} {n : Nat} : aGho (fF K n) fa_T K n (fJX K n) ag_ruPO := by
  refine aGho_of ⟨rfl, rfl⟩ ?_
  intro p σ ρ hH hX hA hM
  have hG := aAG_of hA.1 (fun i e v he hv => (hA.2 i e v he hv).1)
  clear hA
  obtain ⟨v0, v1, v2, v3, rfl, g0, g1, g2, g3⟩ := fA_4 hG
  clear hG
  obtain ⟨x0, rfl, b0, d0⟩ := fG_ref (by decide) g0
  obtain ⟨x1, rfl, b1, d1⟩ := aG_int g1
  dsimp only at b1 d1
  obtain ⟨x2, rfl, b2, d2⟩ := aG_int g2
  dsimp only at b2 d2
  obtain ⟨x3, rfl, b3, d3⟩ := aG_int g3
  dsimp only at b3 d3
  obtain ⟨m1, m2, m3, m4⟩ := hM
  obtain ⟨a0, c0, fs0, w0, e1, s0, t0, e4⟩ := m1 (0, 2, 3) (List.mem_of_getElem? (i := 0) rfl)
  obtain rfl : x0 = a0 := Sum.inl.inj (Option.some.inj (Sum.inr.inj (Sum.inr.inj (Option.some.inj (show some (fR x0) = some _ from e1)))))
  obtain rfl : fI x3 = w0 := Option.some.inj (show some (fI x3) = some w0 from e4)
  clear e1 e4
  have l0 : 0 ≤ (1 * x2.toInt + (-1 * x1.toInt + (16 * x3.toInt + 0))) + -8 := by
    obtain ⟨z, e6, e7⟩ := m3 ([(2, 1), (1, -1), (3, 16)], -8) (List.mem_of_getElem? (i := 0) rfl)
    obtain rfl : (1 * x2.toInt + (-1 * x1.toInt + (16 * x3.toInt + 0))) = z := Option.some.inj (show some (1 * x2.toInt + (-1 * x1.toInt + (16 * x3.toInt + 0))) = some z from e6)
    exact e7
  have l1 : 0 ≤ (-1 * x2.toInt + (1 * x1.toInt + (-16 * x3.toInt + 0))) + 8 := by
    obtain ⟨z, e6, e7⟩ := m3 ([(2, -1), (1, 1), (3, -16)], 8) (List.mem_of_getElem? (i := 1) rfl)
    obtain rfl : (-1 * x2.toInt + (1 * x1.toInt + (-16 * x3.toInt + 0))) = z := Option.some.inj (show some (-1 * x2.toInt + (1 * x1.toInt + (-16 * x3.toInt + 0))) = some z from e6)
    exact e7
  have f0 : fB K n p 1 [fR x0] σ := by
    obtain ⟨w, e6, e7⟩ := m4 (17, [0]) (List.mem_of_getElem? (i := 0) rfl)
    obtain rfl : [fR x0] = w := Option.some.inj (show some [fR x0] = some w from e6)
    exact (fF_b (r := 17) (by decide) rfl).mp e7
  clear m1 m2 m3 m4
  obtain ⟨a9_0, e9_0, h0, g0⟩ := f0
  cases e9_0
  have hF := fAt_of h0 s0
  have hsd := hF.2.1 x3 t0
  have q0 : fB K n (p) 59 [fI x1, fI x2] σ := by
    refine (fE_o (by decide)).mpr (Or.inl ⟨x1, x2, rfl, ?_⟩)
    unfold fOne
    rw [← hsd]
    omega
  exact ⟨p, fun _ => rfl, ⟨(fun q h => by cases h), fun q h => (by cases h), (fun f h => by cases h), (aAllc ⟨_, rfl, (fF_b (r := 946) (by decide) rfl).mpr q0⟩ (fun f h => by cases h))⟩, [], List.mem_cons_self, fun f h => (by cases h)⟩
set_option maxRecDepth 8192 in
theorem rw_ruLS0 {K : Nat → Nat} {n : Nat} : aGho (fF K n) fa_T K n (fJX K n) ag_ruLS0 := by
  refine aGho_of ⟨rfl, rfl⟩ ?_
  intro p σ ρ hH hX hA hM
  have hG := aAG_of hA.1 (fun i e v he hv => (hA.2 i e v he hv).1)
  clear hA
  obtain ⟨v0, v1, v2, rfl, g0, g1, g2⟩ := fA_3 hG
  clear hG
  obtain ⟨x0, rfl, b0, d0⟩ := aG_int g0
  dsimp only at b0 d0
  obtain ⟨x1, rfl, b1, d1⟩ := aG_int g1
  dsimp only at b1 d1
  obtain ⟨x2, rfl, b2, d2⟩ := aG_int g2
  dsimp only at b2 d2
  obtain ⟨m1, m2, m3, m4⟩ := hM
  have f0 : fB K n p 59 [fI x0, fI x1] σ := by
    obtain ⟨w, e6, e7⟩ := m4 (946, [0, 1]) (List.mem_of_getElem? (i := 0) rfl)
    obtain rfl : [fI x0, fI x1] = w := Option.some.inj (show some [fI x0, fI x1] = some w from e6)
    exact (fF_b (r := 946) (by decide) rfl).mp e7
  clear m1 m2 m3 m4
  obtain ⟨y0_0, y0_1, e8_0, h0⟩ := fOr_l ((fE_o (by decide)).mp f0) (by rintro ⟨_, _, e9, -⟩; cases e9)
  cases e8_0
  have q0 : fB K n (p) 58 [fI x0, fI x2] σ := by
    refine (fE_o (by decide)).mpr (Or.inl ⟨x0, x2, rfl, Or.inr ⟨by omega, ?_⟩⟩)
    unfold fLa
    omega
  exact ⟨p, fun _ => rfl, ⟨(fun q h => by cases h), fun q h => (by cases h), (fun f h => by cases h), (aAllc ⟨_, rfl, (fF_b (r := 930) (by decide) rfl).mpr q0⟩ (fun f h => by cases h))⟩, [], List.mem_cons_self, fun f h => (by cases h)⟩
set_option maxRecDepth 8192 in
theorem rw_ruLS1 {K : Nat → Nat} {n : Nat} : aGho (fF K n) fa_T K n (fJX K n) ag_ruLS1 := by
  refine aGho_of ⟨rfl, rfl⟩ ?_
  intro p σ ρ hH hX hA hM
  have hG := aAG_of hA.1 (fun i e v he hv => (hA.2 i e v he hv).1)
  clear hA
  obtain ⟨v0, v1, v2, rfl, g0, g1, g2⟩ := fA_3 hG
  clear hG
  obtain ⟨x0, rfl, b0, d0⟩ := aG_int g0
  dsimp only at b0 d0
  obtain ⟨x1, rfl, b1, d1⟩ := aG_int g1
  dsimp only at b1 d1
  obtain ⟨x2, rfl, b2, d2⟩ := aG_int g2
  dsimp only at b2 d2
  obtain ⟨m1, m2, m3, m4⟩ := hM
  have f0 : fB K n p 59 [fI x0, fI x1] σ := by
    obtain ⟨w, e6, e7⟩ := m4 (946, [0, 1]) (List.mem_of_getElem? (i := 0) rfl)
    obtain rfl : [fI x0, fI x1] = w := Option.some.inj (show some [fI x0, fI x1] = some w from e6)
    exact (fF_b (r := 946) (by decide) rfl).mp e7
  clear m1 m2 m3 m4
  obtain ⟨y0_0, y0_1, e8_0, h0⟩ := fOr_l ((fE_o (by decide)).mp f0) (by rintro ⟨_, _, e9, -⟩; cases e9)
  cases e8_0
  have q0 : fB K n (p) 58 [fI x0, fI x2] σ := by
    refine (fE_o (by decide)).mpr (Or.inl ⟨x0, x2, rfl, Or.inl ⟨by omega, ?_⟩⟩)
    unfold fLa
    omega
  exact ⟨p, fun _ => rfl, ⟨(fun q h => by cases h), fun q h => (by cases h), (fun f h => by cases h), (aAllc ⟨_, rfl, (fF_b (r := 930) (by decide) rfl).mpr q0⟩ (fun f h => by cases h))⟩, [], List.mem_cons_self, fun f h => (by cases h)⟩
set_option maxRecDepth 8192 in
theorem rw_ruLS2 {K : Nat → Nat} {n : Nat} : aGho (fF K n) fa_T K n (fJX K n) ag_ruLS2 := by
  refine aGho_of ⟨rfl, rfl⟩ ?_
  intro p σ ρ hH hX hA hM
  have hG := aAG_of hA.1 (fun i e v he hv => (hA.2 i e v he hv).1)
  clear hA
  obtain ⟨v0, v1, v2, rfl, g0, g1, g2⟩ := fA_3 hG
  clear hG
  obtain ⟨x0, rfl, b0, d0⟩ := aG_int g0
  dsimp only at b0 d0
  obtain ⟨x1, rfl, b1, d1⟩ := aG_int g1
  dsimp only at b1 d1
  obtain ⟨x2, rfl, b2, d2⟩ := aG_int g2
  dsimp only at b2 d2
  obtain ⟨m1, m2, m3, m4⟩ := hM
  have f0 : fB K n p 59 [fI x0, fI x1] σ := by
    obtain ⟨w, e6, e7⟩ := m4 (946, [0, 1]) (List.mem_of_getElem? (i := 0) rfl)
    obtain rfl : [fI x0, fI x1] = w := Option.some.inj (show some [fI x0, fI x1] = some w from e6)
    exact (fF_b (r := 946) (by decide) rfl).mp e7
  clear m1 m2 m3 m4
  obtain ⟨y0_0, y0_1, e8_0, h0⟩ := fOr_l ((fE_o (by decide)).mp f0) (by rintro ⟨_, _, e9, -⟩; cases e9)
  cases e8_0
  have q0 : fB K n (p) 58 [fI x0, fI x2] σ := by
    refine (fE_o (by decide)).mpr (Or.inl ⟨x0, x2, rfl, Or.inl ⟨by omega, ?_⟩⟩)
    unfold fLa
    omega
  exact ⟨p, fun _ => rfl, ⟨(fun q h => by cases h), fun q h => (by cases h), (fun f h => by cases h), (aAllc ⟨_, rfl, (fF_b (r := 930) (by decide) rfl).mpr q0⟩ (fun f h => by cases h))⟩, [], List.mem_cons_self, fun f h => (by cases h)⟩
set_option maxRecDepth 8192 in
theorem rw_ruSQE {K : Nat → Nat} {n : Nat} : aGho (fF K n) fa_T K n (fJX K n) ag_ruSQE := by
  refine aGho_of ⟨rfl, rfl⟩ ?_
  intro p σ ρ hH hX hA hM
  have hG := aAG_of hA.1 (fun i e v he hv => (hA.2 i e v he hv).1)
  clear hA
  obtain ⟨v0, v1, v2, v3, rfl, g0, g1, g2, g3⟩ := fA_4 hG
  clear hG
  obtain ⟨x0, rfl, b0, d0⟩ := aG_int g0
  dsimp only at b0 d0
  obtain ⟨x1, rfl, b1, d1⟩ := aG_int g1
  dsimp only at b1 d1
  obtain ⟨x2, rfl, b2, d2⟩ := aG_int g2
  dsimp only at b2 d2
  obtain ⟨x3, rfl, b3, d3⟩ := aG_int g3
  dsimp only at b3 d3
  obtain ⟨m1, m2, m3, m4⟩ := hM
  have l0 : 0 ≤ (1 * x0.toInt + (-8 * x2.toInt + 0)) + 0 := by
    obtain ⟨z, e6, e7⟩ := m3 ([(0, 1), (2, -8)], 0) (List.mem_of_getElem? (i := 0) rfl)
    obtain rfl : (1 * x0.toInt + (-8 * x2.toInt + 0)) = z := Option.some.inj (show some (1 * x0.toInt + (-8 * x2.toInt + 0)) = some z from e6)
    exact e7
  have l1 : 0 ≤ (-1 * x0.toInt + (8 * x2.toInt + 0)) + 7 := by
    obtain ⟨z, e6, e7⟩ := m3 ([(0, -1), (2, 8)], 7) (List.mem_of_getElem? (i := 1) rfl)
    obtain rfl : (-1 * x0.toInt + (8 * x2.toInt + 0)) = z := Option.some.inj (show some (-1 * x0.toInt + (8 * x2.toInt + 0)) = some z from e6)
    exact e7
  have l2 : 0 ≤ (1 * x1.toInt + (-8 * x3.toInt + 0)) + 0 := by
    obtain ⟨z, e6, e7⟩ := m3 ([(1, 1), (3, -8)], 0) (List.mem_of_getElem? (i := 2) rfl)
    obtain rfl : (1 * x1.toInt + (-8 * x3.toInt + 0)) = z := Option.some.inj (show some (1 * x1.toInt + (-8 * x3.toInt + 0)) = some z from e6)
    exact e7
  have l3 : 0 ≤ (-1 * x1.toInt + (8 * x3.toInt + 0)) + 7 := by
    obtain ⟨z, e6, e7⟩ := m3 ([(1, -1), (3, 8)], 7) (List.mem_of_getElem? (i := 3) rfl)
    obtain rfl : (-1 * x1.toInt + (8 * x3.toInt + 0)) = z := Option.some.inj (show some (-1 * x1.toInt + (8 * x3.toInt + 0)) = some z from e6)
    exact e7
  have l4 : 0 ≤ (1 * x2.toInt + (-1 * x3.toInt + 0)) + 0 := by
    obtain ⟨z, e6, e7⟩ := m3 ([(2, 1), (3, -1)], 0) (List.mem_of_getElem? (i := 4) rfl)
    obtain rfl : (1 * x2.toInt + (-1 * x3.toInt + 0)) = z := Option.some.inj (show some (1 * x2.toInt + (-1 * x3.toInt + 0)) = some z from e6)
    exact e7
  have l5 : 0 ≤ (-1 * x2.toInt + (1 * x3.toInt + 0)) + 0 := by
    obtain ⟨z, e6, e7⟩ := m3 ([(2, -1), (3, 1)], 0) (List.mem_of_getElem? (i := 5) rfl)
    obtain rfl : (-1 * x2.toInt + (1 * x3.toInt + 0)) = z := Option.some.inj (show some (-1 * x2.toInt + (1 * x3.toInt + 0)) = some z from e6)
    exact e7
  clear m1 m2 m3 m4
  have q0 : fB K n (p) 212 [fI x0, fI x1] σ := by
    refine (fP_o (by decide)).mpr (Or.inr ⟨x0, x1, rfl, by omega⟩)
  exact ⟨p, fun _ => rfl, ⟨(fun q h => by cases h), fun q h => (by cases h), (fun f h => by cases h), (aAllc ⟨_, rfl, (fF_b (r := 3394) (by decide) rfl).mpr q0⟩ (fun f h => by cases h))⟩, [], List.mem_cons_self, fun f h => (by cases h)⟩
set_option maxRecDepth 8192 in
theorem rw_ruPG1 {K : Nat → Nat} {n : Nat} : aGho (fF K n) fa_T K n (fJX K n) ag_ruPG1 := by
  refine aGho_of ⟨rfl, rfl⟩ ?_
  intro p σ ρ hH hX hA hM
  have hG := aAG_of hA.1 (fun i e v he hv => (hA.2 i e v he hv).1)
  clear hA
  obtain ⟨v0, v1, v2, v3, rfl, g0, g1, g2, g3⟩ := fA_4 hG
  clear hG
  obtain ⟨x0, rfl, b0, d0⟩ := aG_int g0
  dsimp only at b0 d0
  obtain ⟨x1, rfl, b1, d1⟩ := aG_int g1
  dsimp only at b1 d1
  obtain ⟨x2, rfl, b2, d2⟩ := aG_int g2
  dsimp only at b2 d2
  obtain ⟨x3, rfl, b3, d3⟩ := aG_int g3
  dsimp only at b3 d3
  obtain ⟨m1, m2, m3, m4⟩ := hM
  have l0 : 0 ≤ (1 * x2.toInt + (-1 * x1.toInt + 0)) + 0 := by
    obtain ⟨z, e6, e7⟩ := m3 ([(2, 1), (1, -1)], 0) (List.mem_of_getElem? (i := 0) rfl)
    obtain rfl : (1 * x2.toInt + (-1 * x1.toInt + 0)) = z := Option.some.inj (show some (1 * x2.toInt + (-1 * x1.toInt + 0)) = some z from e6)
    exact e7
  have l1 : 0 ≤ (-1 * x2.toInt + (1 * x1.toInt + 0)) + 0 := by
    obtain ⟨z, e6, e7⟩ := m3 ([(2, -1), (1, 1)], 0) (List.mem_of_getElem? (i := 1) rfl)
    obtain rfl : (-1 * x2.toInt + (1 * x1.toInt + 0)) = z := Option.some.inj (show some (-1 * x2.toInt + (1 * x1.toInt + 0)) = some z from e6)
    exact e7
  have f0 : fB K n p 59 [fI x0, fI x1] σ := by
    obtain ⟨w, e6, e7⟩ := m4 (946, [0, 1]) (List.mem_of_getElem? (i := 0) rfl)
    obtain rfl : [fI x0, fI x1] = w := Option.some.inj (show some [fI x0, fI x1] = some w from e6)
    exact (fF_b (r := 946) (by decide) rfl).mp e7
  have f1 : fB K n p 39 [fI x2, fI x3] σ := by
    obtain ⟨w, e6, e7⟩ := m4 (626, [2, 3]) (List.mem_of_getElem? (i := 1) rfl)
    obtain rfl : [fI x2, fI x3] = w := Option.some.inj (show some [fI x2, fI x3] = some w from e6)
    exact (fF_b (r := 626) (by decide) rfl).mp e7
  clear m1 m2 m3 m4
  obtain ⟨y0_0, y0_1, e8_0, h0⟩ := fOr_l ((fE_o (by decide)).mp f0) (by rintro ⟨_, _, e9, -⟩; cases e9)
  cases e8_0
  obtain ⟨y1_0, y1_1, e9_1, h1⟩ := f1
  cases e9_1
  rw [fNc] at h1
  have hc : ((fq p).1 x2.toInt.toNat).toInt = x3.toInt := by rw [h1]
  have q0 : fB K n (p) 56 [fI x0, fI x2] σ := by
    refine (fE_o (by decide)).mpr (Or.inl ⟨x0, x2, rfl, ?_⟩)
    unfold fPg
    omega
  exact ⟨p, fun _ => rfl, ⟨(fun q h => by cases h), fun q h => (by cases h), (fun f h => by cases h), (aAllc ⟨_, rfl, (fF_b (r := 898) (by decide) rfl).mpr q0⟩ (fun f h => by cases h))⟩, [], List.mem_cons_self, fun f h => (by cases h)⟩
set_option maxRecDepth 8192 in
theorem rw_ruPN1 {K : Nat → Nat} {n : Nat} : aGho (fF K n) fa_T K n (fJX K n) ag_ruPN1 := by
  refine aGho_of ⟨rfl, rfl⟩ ?_
  intro p σ ρ hH hX hA hM
  have hG := aAG_of hA.1 (fun i e v he hv => (hA.2 i e v he hv).1)
  clear hA
  obtain ⟨v0, v1, v2, v3, rfl, g0, g1, g2, g3⟩ := fA_4 hG
  clear hG
  obtain ⟨x0, rfl, b0, d0⟩ := aG_int g0
  dsimp only at b0 d0
  obtain ⟨x1, rfl, b1, d1⟩ := aG_int g1
  dsimp only at b1 d1
  obtain ⟨x2, rfl, b2, d2⟩ := aG_int g2
  dsimp only at b2 d2
  obtain ⟨x3, rfl, b3, d3⟩ := aG_int g3
  dsimp only at b3 d3
  obtain ⟨m1, m2, m3, m4⟩ := hM
  have l0 : 0 ≤ (1 * x2.toInt + (-1 * x1.toInt + 0)) + 0 := by
    obtain ⟨z, e6, e7⟩ := m3 ([(2, 1), (1, -1)], 0) (List.mem_of_getElem? (i := 0) rfl)
    obtain rfl : (1 * x2.toInt + (-1 * x1.toInt + 0)) = z := Option.some.inj (show some (1 * x2.toInt + (-1 * x1.toInt + 0)) = some z from e6)
    exact e7
  have l1 : 0 ≤ (-1 * x2.toInt + (1 * x1.toInt + 0)) + 0 := by
    obtain ⟨z, e6, e7⟩ := m3 ([(2, -1), (1, 1)], 0) (List.mem_of_getElem? (i := 1) rfl)
    obtain rfl : (-1 * x2.toInt + (1 * x1.toInt + 0)) = z := Option.some.inj (show some (-1 * x2.toInt + (1 * x1.toInt + 0)) = some z from e6)
    exact e7
  have f0 : fB K n p 59 [fI x0, fI x1] σ := by
    obtain ⟨w, e6, e7⟩ := m4 (946, [0, 1]) (List.mem_of_getElem? (i := 0) rfl)
    obtain rfl : [fI x0, fI x1] = w := Option.some.inj (show some [fI x0, fI x1] = some w from e6)
    exact (fF_b (r := 946) (by decide) rfl).mp e7
  have f1 : fB K n p 39 [fI x2, fI x3] σ := by
    obtain ⟨w, e6, e7⟩ := m4 (626, [2, 3]) (List.mem_of_getElem? (i := 1) rfl)
    obtain rfl : [fI x2, fI x3] = w := Option.some.inj (show some [fI x2, fI x3] = some w from e6)
    exact (fF_b (r := 626) (by decide) rfl).mp e7
  clear m1 m2 m3 m4
  obtain ⟨y0_0, y0_1, e8_0, h0⟩ := fOr_l ((fE_o (by decide)).mp f0) (by rintro ⟨_, _, e9, -⟩; cases e9)
  cases e8_0
  obtain ⟨y1_0, y1_1, e9_1, h1⟩ := f1
  cases e9_1
  rw [fNc] at h1
  have hc : ((fq p).1 x2.toInt.toNat).toInt = x3.toInt := by rw [h1]
  have q0 : fB K n (p) 57 [fI x0, fI x2] σ := by
    refine (fE_o (by decide)).mpr (Or.inl ⟨x0, x2, rfl, ?_⟩)
    unfold fPg
    omega
  exact ⟨p, fun _ => rfl, ⟨(fun q h => by cases h), fun q h => (by cases h), (fun f h => by cases h), (aAllc ⟨_, rfl, (fF_b (r := 914) (by decide) rfl).mpr q0⟩ (fun f h => by cases h))⟩, [], List.mem_cons_self, fun f h => (by cases h)⟩
set_option maxRecDepth 8192 in
theorem rw_ruPN2 {K : Nat → Nat} {n : Nat} : aGho (fF K n) fa_T K n (fJX K n) ag_ruPN2 := by
  refine aGho_of ⟨rfl, rfl⟩ ?_
  intro p σ ρ hH hX hA hM
  have hG := aAG_of hA.1 (fun i e v he hv => (hA.2 i e v he hv).1)
  clear hA
  obtain ⟨v0, v1, v2, rfl, g0, g1, g2⟩ := fA_3 hG
  clear hG
  obtain ⟨x0, rfl, b0, d0⟩ := aG_int g0
  dsimp only at b0 d0
  obtain ⟨x1, rfl, b1, d1⟩ := aG_int g1
  dsimp only at b1 d1
  obtain ⟨x2, rfl, b2, d2⟩ := aG_int g2
  dsimp only at b2 d2
  obtain ⟨m1, m2, m3, m4⟩ := hM
  have f0 : fB K n p 59 [fI x0, fI x1] σ := by
    obtain ⟨w, e6, e7⟩ := m4 (946, [0, 1]) (List.mem_of_getElem? (i := 0) rfl)
    obtain rfl : [fI x0, fI x1] = w := Option.some.inj (show some [fI x0, fI x1] = some w from e6)
    exact (fF_b (r := 946) (by decide) rfl).mp e7
  have f1 : fB K n p 210 [fI x2, fI x1] σ := by
    obtain ⟨w, e6, e7⟩ := m4 (3362, [2, 1]) (List.mem_of_getElem? (i := 1) rfl)
    obtain rfl : [fI x2, fI x1] = w := Option.some.inj (show some [fI x2, fI x1] = some w from e6)
    exact (fF_b (r := 3362) (by decide) rfl).mp e7
  clear m1 m2 m3 m4
  obtain ⟨y0_0, y0_1, e8_0, h0⟩ := fOr_l ((fE_o (by decide)).mp f0) (by rintro ⟨_, _, e9, -⟩; cases e9)
  cases e8_0
  obtain ⟨y1_0, y1_1, e8_1, h1⟩ := (fP_o (by decide)).mp f1
  cases e8_1
  have q0 : fB K n (p) 57 [fI x0, fI x2] σ := by
    refine (fE_o (by decide)).mpr (Or.inl ⟨x0, x2, rfl, ?_⟩)
    unfold fPg
    omega
  exact ⟨p, fun _ => rfl, ⟨(fun q h => by cases h), fun q h => (by cases h), (fun f h => by cases h), (aAllc ⟨_, rfl, (fF_b (r := 914) (by decide) rfl).mpr q0⟩ (fun f h => by cases h))⟩, [], List.mem_cons_self, fun f h => (by cases h)⟩
set_option maxRecDepth 8192 in
theorem rw_ruPN3 {K : Nat → Nat} {n : Nat} : aGho (fF K n) fa_T K n (fJX K n) ag_ruPN3 := by
  refine aGho_of ⟨rfl, rfl⟩ ?_
  intro p σ ρ hH hX hA hM
  have hG := aAG_of hA.1 (fun i e v he hv => (hA.2 i e v he hv).1)
  clear hA
  obtain ⟨v0, v1, v2, rfl, g0, g1, g2⟩ := fA_3 hG
  clear hG
  obtain ⟨x0, rfl, b0, d0⟩ := aG_int g0
  dsimp only at b0 d0
  obtain ⟨x1, rfl, b1, d1⟩ := aG_int g1
  dsimp only at b1 d1
  obtain ⟨x2, rfl, b2, d2⟩ := aG_int g2
  dsimp only at b2 d2
  obtain ⟨m1, m2, m3, m4⟩ := hM
  have f0 : fB K n p 59 [fI x0, fI x1] σ := by
    obtain ⟨w, e6, e7⟩ := m4 (946, [0, 1]) (List.mem_of_getElem? (i := 0) rfl)
    obtain rfl : [fI x0, fI x1] = w := Option.some.inj (show some [fI x0, fI x1] = some w from e6)
    exact (fF_b (r := 946) (by decide) rfl).mp e7
  have f1 : fB K n p 210 [fI x2, fI x1] σ := by
    obtain ⟨w, e6, e7⟩ := m4 (3362, [2, 1]) (List.mem_of_getElem? (i := 1) rfl)
    obtain rfl : [fI x2, fI x1] = w := Option.some.inj (show some [fI x2, fI x1] = some w from e6)
    exact (fF_b (r := 3362) (by decide) rfl).mp e7
  clear m1 m2 m3 m4
  obtain ⟨y0_0, y0_1, e8_0, h0⟩ := fOr_l ((fE_o (by decide)).mp f0) (by rintro ⟨_, _, e9, -⟩; cases e9)
  cases e8_0
  obtain ⟨y1_0, y1_1, e8_1, h1⟩ := (fP_o (by decide)).mp f1
  cases e8_1
  have q0 : fB K n (p) 57 [fI x0, fI x2] σ := by
    refine (fE_o (by decide)).mpr (Or.inl ⟨x0, x2, rfl, ?_⟩)
    unfold fPg
    omega
  exact ⟨p, fun _ => rfl, ⟨(fun q h => by cases h), fun q h => (by cases h), (fun f h => by cases h), (aAllc ⟨_, rfl, (fF_b (r := 914) (by decide) rfl).mpr q0⟩ (fun f h => by cases h))⟩, [], List.mem_cons_self, fun f h => (by cases h)⟩
set_option maxRecDepth 8192 in
theorem rw_ruPN4 {K : Nat → Nat} {n : Nat} : aGho (fF K n) fa_T K n (fJX K n) ag_ruPN4 := by
  refine aGho_of ⟨rfl, rfl⟩ ?_
  intro p σ ρ hH hX hA hM
  have hG := aAG_of hA.1 (fun i e v he hv => (hA.2 i e v he hv).1)
  clear hA
  obtain ⟨v0, v1, v2, v3, v4, rfl, g0, g1, g2, g3, g4⟩ := fA_5 hG
  clear hG
  obtain ⟨x0, rfl, b0, d0⟩ := aG_int g0
  dsimp only at b0 d0
  obtain ⟨x1, rfl, b1, d1⟩ := aG_int g1
  dsimp only at b1 d1
  obtain ⟨x2, rfl, b2, d2⟩ := aG_int g2
  dsimp only at b2 d2
  obtain ⟨x3, rfl, b3, d3⟩ := aG_int g3
  dsimp only at b3 d3
  obtain ⟨x4, rfl, b4, d4⟩ := aG_int g4
  dsimp only at b4 d4
  obtain ⟨m1, m2, m3, m4⟩ := hM
  have l0 : 0 ≤ (1 * x2.toInt + (-8 * x3.toInt + 0)) + 0 := by
    obtain ⟨z, e6, e7⟩ := m3 ([(2, 1), (3, -8)], 0) (List.mem_of_getElem? (i := 0) rfl)
    obtain rfl : (1 * x2.toInt + (-8 * x3.toInt + 0)) = z := Option.some.inj (show some (1 * x2.toInt + (-8 * x3.toInt + 0)) = some z from e6)
    exact e7
  have l1 : 0 ≤ (-1 * x2.toInt + (8 * x3.toInt + 0)) + 7 := by
    obtain ⟨z, e6, e7⟩ := m3 ([(2, -1), (3, 8)], 7) (List.mem_of_getElem? (i := 1) rfl)
    obtain rfl : (-1 * x2.toInt + (8 * x3.toInt + 0)) = z := Option.some.inj (show some (-1 * x2.toInt + (8 * x3.toInt + 0)) = some z from e6)
    exact e7
  have l2 : 0 ≤ (1 * x1.toInt + (-8 * x4.toInt + 0)) + 0 := by
    obtain ⟨z, e6, e7⟩ := m3 ([(1, 1), (4, -8)], 0) (List.mem_of_getElem? (i := 2) rfl)
    obtain rfl : (1 * x1.toInt + (-8 * x4.toInt + 0)) = z := Option.some.inj (show some (1 * x1.toInt + (-8 * x4.toInt + 0)) = some z from e6)
    exact e7
  have l3 : 0 ≤ (-1 * x1.toInt + (8 * x4.toInt + 0)) + 7 := by
    obtain ⟨z, e6, e7⟩ := m3 ([(1, -1), (4, 8)], 7) (List.mem_of_getElem? (i := 3) rfl)
    obtain rfl : (-1 * x1.toInt + (8 * x4.toInt + 0)) = z := Option.some.inj (show some (-1 * x1.toInt + (8 * x4.toInt + 0)) = some z from e6)
    exact e7
  have f0 : fB K n p 59 [fI x0, fI x1] σ := by
    obtain ⟨w, e6, e7⟩ := m4 (946, [0, 1]) (List.mem_of_getElem? (i := 0) rfl)
    obtain rfl : [fI x0, fI x1] = w := Option.some.inj (show some [fI x0, fI x1] = some w from e6)
    exact (fF_b (r := 946) (by decide) rfl).mp e7
  have f1 : fB K n p 210 [fI x2, fI x1] σ := by
    obtain ⟨w, e6, e7⟩ := m4 (3362, [2, 1]) (List.mem_of_getElem? (i := 1) rfl)
    obtain rfl : [fI x2, fI x1] = w := Option.some.inj (show some [fI x2, fI x1] = some w from e6)
    exact (fF_b (r := 3362) (by decide) rfl).mp e7
  have f2 : fB K n p 210 [fI x3, fI x4] σ := by
    obtain ⟨w, e6, e7⟩ := m4 (3362, [3, 4]) (List.mem_of_getElem? (i := 2) rfl)
    obtain rfl : [fI x3, fI x4] = w := Option.some.inj (show some [fI x3, fI x4] = some w from e6)
    exact (fF_b (r := 3362) (by decide) rfl).mp e7
  clear m1 m2 m3 m4
  obtain ⟨y0_0, y0_1, e8_0, h0⟩ := fOr_l ((fE_o (by decide)).mp f0) (by rintro ⟨_, _, e9, -⟩; cases e9)
  cases e8_0
  obtain ⟨y1_0, y1_1, e8_1, h1⟩ := (fP_o (by decide)).mp f1
  cases e8_1
  obtain ⟨y2_0, y2_1, e8_2, h2⟩ := (fP_o (by decide)).mp f2
  cases e8_2
  have q0 : fB K n (p) 57 [fI x0, fI x2] σ := by
    refine (fE_o (by decide)).mpr (Or.inl ⟨x0, x2, rfl, ?_⟩)
    unfold fPg
    omega
  exact ⟨p, fun _ => rfl, ⟨(fun q h => by cases h), fun q h => (by cases h), (fun f h => by cases h), (aAllc ⟨_, rfl, (fF_b (r := 914) (by decide) rfl).mpr q0⟩ (fun f h => by cases h))⟩, [], List.mem_cons_self, fun f h => (by cases h)⟩
set_option maxRecDepth 8192 in
theorem rw_ruPN5 {K : Nat → Nat} {n : Nat} : aGho (fF K n) fa_T K n (fJX K n) ag_ruPN5 := by
  refine aGho_of ⟨rfl, rfl⟩ ?_
  intro p σ ρ hH hX hA hM
  have hG := aAG_of hA.1 (fun i e v he hv => (hA.2 i e v he hv).1)
  clear hA
  obtain ⟨v0, v1, v2, v3, v4, v5, rfl, g0, g1, g2, g3, g4, g5⟩ := fA_6 hG
  clear hG
  obtain ⟨x0, rfl, b0, d0⟩ := aG_int g0
  dsimp only at b0 d0
  obtain ⟨x1, rfl, b1, d1⟩ := aG_int g1
  dsimp only at b1 d1
  obtain ⟨x2, rfl, b2, d2⟩ := aG_int g2
  dsimp only at b2 d2
  obtain ⟨x3, rfl, b3, d3⟩ := aG_int g3
  dsimp only at b3 d3
  obtain ⟨x4, rfl, b4, d4⟩ := fG_ref (by decide) g4
  obtain ⟨x5, rfl, b5, d5⟩ := aG_int g5
  dsimp only at b5 d5
  obtain ⟨m1, m2, m3, m4⟩ := hM
  obtain ⟨a0, c0, fs0, w0, e1, s0, t0, e4⟩ := m1 (4, 4, 5) (List.mem_of_getElem? (i := 0) rfl)
  obtain rfl : x4 = a0 := Sum.inl.inj (Option.some.inj (Sum.inr.inj (Sum.inr.inj (Option.some.inj (show some (fR x4) = some _ from e1)))))
  obtain rfl : fI x5 = w0 := Option.some.inj (show some (fI x5) = some w0 from e4)
  clear e1 e4
  have f0 : fB K n p 59 [fI x0, fI x1] σ := by
    obtain ⟨w, e6, e7⟩ := m4 (946, [0, 1]) (List.mem_of_getElem? (i := 0) rfl)
    obtain rfl : [fI x0, fI x1] = w := Option.some.inj (show some [fI x0, fI x1] = some w from e6)
    exact (fF_b (r := 946) (by decide) rfl).mp e7
  have f1 : fB K n p 210 [fI x2, fI x1] σ := by
    obtain ⟨w, e6, e7⟩ := m4 (3362, [2, 1]) (List.mem_of_getElem? (i := 1) rfl)
    obtain rfl : [fI x2, fI x1] = w := Option.some.inj (show some [fI x2, fI x1] = some w from e6)
    exact (fF_b (r := 3362) (by decide) rfl).mp e7
  have f2 : fB K n p 39 [fI x2, fI x3] σ := by
    obtain ⟨w, e6, e7⟩ := m4 (626, [2, 3]) (List.mem_of_getElem? (i := 2) rfl)
    obtain rfl : [fI x2, fI x3] = w := Option.some.inj (show some [fI x2, fI x3] = some w from e6)
    exact (fF_b (r := 626) (by decide) rfl).mp e7
  have f3 : fB K n p 1 [fR x4] σ := by
    obtain ⟨w, e6, e7⟩ := m4 (17, [4]) (List.mem_of_getElem? (i := 3) rfl)
    obtain rfl : [fR x4] = w := Option.some.inj (show some [fR x4] = some w from e6)
    exact (fF_b (r := 17) (by decide) rfl).mp e7
  have f4 : fB K n p 210 [fI x2, fI x5] σ := by
    obtain ⟨w, e6, e7⟩ := m4 (3362, [2, 5]) (List.mem_of_getElem? (i := 4) rfl)
    obtain rfl : [fI x2, fI x5] = w := Option.some.inj (show some [fI x2, fI x5] = some w from e6)
    exact (fF_b (r := 3362) (by decide) rfl).mp e7
  clear m1 m2 m3 m4
  obtain ⟨y0_0, y0_1, e8_0, h0⟩ := fOr_l ((fE_o (by decide)).mp f0) (by rintro ⟨_, _, e9, -⟩; cases e9)
  cases e8_0
  obtain ⟨y1_0, y1_1, e8_1, h1⟩ := (fP_o (by decide)).mp f1
  cases e8_1
  obtain ⟨y2_0, y2_1, e9_2, h2⟩ := f2
  cases e9_2
  obtain ⟨a9_3, e9_3, h3, g3⟩ := f3
  cases e9_3
  obtain ⟨y4_0, y4_1, e8_4, h4⟩ := (fP_o (by decide)).mp f4
  cases e8_4
  rw [fNc] at h2
  have hc : ((fq p).1 x2.toInt.toNat).toInt = x3.toInt := by rw [h2]
  have hF := fAt_of h3 s0
  have hps := hF.2.2.2.1 x5 t0
  have hpi : ((fq p).2 4).toInt = x5.toInt := by rw [← hps]
  have q0 : fB K n (p) 57 [fI x0, fI x2] σ := by
    refine (fE_o (by decide)).mpr (Or.inl ⟨x0, x2, rfl, ?_⟩)
    unfold fPg
    omega
  exact ⟨p, fun _ => rfl, ⟨(fun q h => by cases h), fun q h => (by cases h), (fun f h => by cases h), (aAllc ⟨_, rfl, (fF_b (r := 914) (by decide) rfl).mpr q0⟩ (fun f h => by cases h))⟩, [], List.mem_cons_self, fun f h => (by cases h)⟩
set_option maxRecDepth 8192 in
theorem rw_ruPG2 {K : Nat → Nat} {n : Nat} : aGho (fF K n) fa_T K n (fJX K n) ag_ruPG2 := by
  refine aGho_of ⟨rfl, rfl⟩ ?_
  intro p σ ρ hH hX hA hM
  have hG := aAG_of hA.1 (fun i e v he hv => (hA.2 i e v he hv).1)
  clear hA
  obtain ⟨v0, v1, v2, v3, v4, v5, rfl, g0, g1, g2, g3, g4, g5⟩ := fA_6 hG
  clear hG
  obtain ⟨x0, rfl, b0, d0⟩ := aG_int g0
  dsimp only at b0 d0
  obtain ⟨x1, rfl, b1, d1⟩ := aG_int g1
  dsimp only at b1 d1
  obtain ⟨x2, rfl, b2, d2⟩ := aG_int g2
  dsimp only at b2 d2
  obtain ⟨x3, rfl, b3, d3⟩ := aG_int g3
  dsimp only at b3 d3
  obtain ⟨x4, rfl, b4, d4⟩ := fG_ref (by decide) g4
  obtain ⟨x5, rfl, b5, d5⟩ := aG_int g5
  dsimp only at b5 d5
  obtain ⟨m1, m2, m3, m4⟩ := hM
  obtain ⟨a0, c0, fs0, w0, e1, s0, t0, e4⟩ := m1 (4, 4, 5) (List.mem_of_getElem? (i := 0) rfl)
  obtain rfl : x4 = a0 := Sum.inl.inj (Option.some.inj (Sum.inr.inj (Sum.inr.inj (Option.some.inj (show some (fR x4) = some _ from e1)))))
  obtain rfl : fI x5 = w0 := Option.some.inj (show some (fI x5) = some w0 from e4)
  clear e1 e4
  have l0 : 0 ≤ (1 * x2.toInt + (-1 * x5.toInt + 0)) + 0 := by
    obtain ⟨z, e6, e7⟩ := m3 ([(2, 1), (5, -1)], 0) (List.mem_of_getElem? (i := 0) rfl)
    obtain rfl : (1 * x2.toInt + (-1 * x5.toInt + 0)) = z := Option.some.inj (show some (1 * x2.toInt + (-1 * x5.toInt + 0)) = some z from e6)
    exact e7
  have l1 : 0 ≤ (-1 * x2.toInt + (1 * x5.toInt + 0)) + 0 := by
    obtain ⟨z, e6, e7⟩ := m3 ([(2, -1), (5, 1)], 0) (List.mem_of_getElem? (i := 1) rfl)
    obtain rfl : (-1 * x2.toInt + (1 * x5.toInt + 0)) = z := Option.some.inj (show some (-1 * x2.toInt + (1 * x5.toInt + 0)) = some z from e6)
    exact e7
  have f0 : fB K n p 59 [fI x0, fI x1] σ := by
    obtain ⟨w, e6, e7⟩ := m4 (946, [0, 1]) (List.mem_of_getElem? (i := 0) rfl)
    obtain rfl : [fI x0, fI x1] = w := Option.some.inj (show some [fI x0, fI x1] = some w from e6)
    exact (fF_b (r := 946) (by decide) rfl).mp e7
  have f1 : fB K n p 210 [fI x2, fI x1] σ := by
    obtain ⟨w, e6, e7⟩ := m4 (3362, [2, 1]) (List.mem_of_getElem? (i := 1) rfl)
    obtain rfl : [fI x2, fI x1] = w := Option.some.inj (show some [fI x2, fI x1] = some w from e6)
    exact (fF_b (r := 3362) (by decide) rfl).mp e7
  have f2 : fB K n p 39 [fI x2, fI x3] σ := by
    obtain ⟨w, e6, e7⟩ := m4 (626, [2, 3]) (List.mem_of_getElem? (i := 2) rfl)
    obtain rfl : [fI x2, fI x3] = w := Option.some.inj (show some [fI x2, fI x3] = some w from e6)
    exact (fF_b (r := 626) (by decide) rfl).mp e7
  have f3 : fB K n p 212 [fI x2, fI x1] σ := by
    obtain ⟨w, e6, e7⟩ := m4 (3394, [2, 1]) (List.mem_of_getElem? (i := 3) rfl)
    obtain rfl : [fI x2, fI x1] = w := Option.some.inj (show some [fI x2, fI x1] = some w from e6)
    exact (fF_b (r := 3394) (by decide) rfl).mp e7
  have f4 : fB K n p 1 [fR x4] σ := by
    obtain ⟨w, e6, e7⟩ := m4 (17, [4]) (List.mem_of_getElem? (i := 4) rfl)
    obtain rfl : [fR x4] = w := Option.some.inj (show some [fR x4] = some w from e6)
    exact (fF_b (r := 17) (by decide) rfl).mp e7
  clear m1 m2 m3 m4
  obtain ⟨y0_0, y0_1, e8_0, h0⟩ := fOr_l ((fE_o (by decide)).mp f0) (by rintro ⟨_, _, e9, -⟩; cases e9)
  cases e8_0
  obtain ⟨y1_0, y1_1, e8_1, h1⟩ := (fP_o (by decide)).mp f1
  cases e8_1
  obtain ⟨y2_0, y2_1, e9_2, h2⟩ := f2
  cases e9_2
  obtain ⟨y3_0, y3_1, e8_3, h3⟩ := fOr_r ((fP_o (by decide)).mp f3) (by rintro ⟨_, _, _, _, e9⟩; cases e9)
  cases e8_3
  obtain ⟨a9_4, e9_4, h4, g4⟩ := f4
  cases e9_4
  rw [fNc] at h2
  have hc : ((fq p).1 x2.toInt.toNat).toInt = x3.toInt := by rw [h2]
  have hF := fAt_of h4 s0
  have hps := hF.2.2.2.1 x5 t0
  have hpi : ((fq p).2 4).toInt = x5.toInt := by rw [← hps]
  have q0 : fB K n (p) 56 [fI x0, fI x2] σ := by
    refine (fE_o (by decide)).mpr (Or.inl ⟨x0, x2, rfl, ?_⟩)
    unfold fPg
    omega
  exact ⟨p, fun _ => rfl, ⟨(fun q h => by cases h), fun q h => (by cases h), (fun f h => by cases h), (aAllc ⟨_, rfl, (fF_b (r := 898) (by decide) rfl).mpr q0⟩ (fun f h => by cases h))⟩, [], List.mem_cons_self, fun f h => (by cases h)⟩
set_option maxRecDepth 8192 in
theorem rw_ruPN6a {K : Nat → Nat} {n : Nat} : aGho (fF K n) fa_T K n (fJX K n) ag_ruPN6a := by
  refine aGho_of ⟨rfl, rfl⟩ ?_
  intro p σ ρ hH hX hA hM
  have hG := aAG_of hA.1 (fun i e v he hv => (hA.2 i e v he hv).1)
  clear hA
  obtain ⟨v0, v1, v2, v3, v4, v5, rfl, g0, g1, g2, g3, g4, g5⟩ := fA_6 hG
  clear hG
  obtain ⟨x0, rfl, b0, d0⟩ := aG_int g0
  dsimp only at b0 d0
  obtain ⟨x1, rfl, b1, d1⟩ := aG_int g1
  dsimp only at b1 d1
  obtain ⟨x2, rfl, b2, d2⟩ := aG_int g2
  dsimp only at b2 d2
  obtain ⟨x3, rfl, b3, d3⟩ := aG_int g3
  dsimp only at b3 d3
  obtain ⟨x4, rfl, b4, d4⟩ := fG_ref (by decide) g4
  obtain ⟨x5, rfl, b5, d5⟩ := aG_int g5
  dsimp only at b5 d5
  obtain ⟨m1, m2, m3, m4⟩ := hM
  obtain ⟨a0, c0, fs0, w0, e1, s0, t0, e4⟩ := m1 (4, 2, 5) (List.mem_of_getElem? (i := 0) rfl)
  obtain rfl : x4 = a0 := Sum.inl.inj (Option.some.inj (Sum.inr.inj (Sum.inr.inj (Option.some.inj (show some (fR x4) = some _ from e1)))))
  obtain rfl : fI x5 = w0 := Option.some.inj (show some (fI x5) = some w0 from e4)
  clear e1 e4
  have f0 : fB K n p 59 [fI x0, fI x1] σ := by
    obtain ⟨w, e6, e7⟩ := m4 (946, [0, 1]) (List.mem_of_getElem? (i := 0) rfl)
    obtain rfl : [fI x0, fI x1] = w := Option.some.inj (show some [fI x0, fI x1] = some w from e6)
    exact (fF_b (r := 946) (by decide) rfl).mp e7
  have f1 : fB K n p 210 [fI x2, fI x1] σ := by
    obtain ⟨w, e6, e7⟩ := m4 (3362, [2, 1]) (List.mem_of_getElem? (i := 1) rfl)
    obtain rfl : [fI x2, fI x1] = w := Option.some.inj (show some [fI x2, fI x1] = some w from e6)
    exact (fF_b (r := 3362) (by decide) rfl).mp e7
  have f2 : fB K n p 39 [fI x2, fI x3] σ := by
    obtain ⟨w, e6, e7⟩ := m4 (626, [2, 3]) (List.mem_of_getElem? (i := 2) rfl)
    obtain rfl : [fI x2, fI x3] = w := Option.some.inj (show some [fI x2, fI x3] = some w from e6)
    exact (fF_b (r := 626) (by decide) rfl).mp e7
  have f3 : fB K n p 1 [fR x4] σ := by
    obtain ⟨w, e6, e7⟩ := m4 (17, [4]) (List.mem_of_getElem? (i := 3) rfl)
    obtain rfl : [fR x4] = w := Option.some.inj (show some [fR x4] = some w from e6)
    exact (fF_b (r := 17) (by decide) rfl).mp e7
  clear m1 m2 m3 m4
  obtain ⟨y0_0, y0_1, e8_0, h0⟩ := fOr_l ((fE_o (by decide)).mp f0) (by rintro ⟨_, _, e9, -⟩; cases e9)
  cases e8_0
  obtain ⟨y1_0, y1_1, e8_1, h1⟩ := (fP_o (by decide)).mp f1
  cases e8_1
  obtain ⟨y2_0, y2_1, e9_2, h2⟩ := f2
  cases e9_2
  obtain ⟨a9_3, e9_3, h3, g3⟩ := f3
  cases e9_3
  rw [fNc] at h2
  have hc : ((fq p).1 x2.toInt.toNat).toInt = x3.toInt := by rw [h2]
  have hF := fAt_of h3 s0
  have hsd := hF.2.1 x5 t0
  have hsi : ((fq p).2 2).toInt = x5.toInt := by rw [← hsd]
  have q0 : fB K n (p) 57 [fI x0, fI x2] σ := by
    refine (fE_o (by decide)).mpr (Or.inl ⟨x0, x2, rfl, ?_⟩)
    unfold fPg
    omega
  exact ⟨p, fun _ => rfl, ⟨(fun q h => by cases h), fun q h => (by cases h), (fun f h => by cases h), (aAllc ⟨_, rfl, (fF_b (r := 914) (by decide) rfl).mpr q0⟩ (fun f h => by cases h))⟩, [], List.mem_cons_self, fun f h => (by cases h)⟩
set_option maxRecDepth 8192 in
theorem rw_ruPG3a {K : Nat → Nat} {n : Nat} : aGho (fF K n) fa_T K n (fJX K n) ag_ruPG3a := by
  refine aGho_of ⟨rfl, rfl⟩ ?_
  intro p σ ρ hH hX hA hM
  have hG := aAG_of hA.1 (fun i e v he hv => (hA.2 i e v he hv).1)
  clear hA
  obtain ⟨v0, v1, v2, v3, v4, v5, rfl, g0, g1, g2, g3, g4, g5⟩ := fA_6 hG
  clear hG
  obtain ⟨x0, rfl, b0, d0⟩ := aG_int g0
  dsimp only at b0 d0
  obtain ⟨x1, rfl, b1, d1⟩ := aG_int g1
  dsimp only at b1 d1
  obtain ⟨x2, rfl, b2, d2⟩ := aG_int g2
  dsimp only at b2 d2
  obtain ⟨x3, rfl, b3, d3⟩ := aG_int g3
  dsimp only at b3 d3
  obtain ⟨x4, rfl, b4, d4⟩ := fG_ref (by decide) g4
  obtain ⟨x5, rfl, b5, d5⟩ := aG_int g5
  dsimp only at b5 d5
  obtain ⟨m1, m2, m3, m4⟩ := hM
  obtain ⟨a0, c0, fs0, w0, e1, s0, t0, e4⟩ := m1 (4, 2, 5) (List.mem_of_getElem? (i := 0) rfl)
  obtain rfl : x4 = a0 := Sum.inl.inj (Option.some.inj (Sum.inr.inj (Sum.inr.inj (Option.some.inj (show some (fR x4) = some _ from e1)))))
  obtain rfl : fI x5 = w0 := Option.some.inj (show some (fI x5) = some w0 from e4)
  clear e1 e4
  have f0 : fB K n p 59 [fI x0, fI x1] σ := by
    obtain ⟨w, e6, e7⟩ := m4 (946, [0, 1]) (List.mem_of_getElem? (i := 0) rfl)
    obtain rfl : [fI x0, fI x1] = w := Option.some.inj (show some [fI x0, fI x1] = some w from e6)
    exact (fF_b (r := 946) (by decide) rfl).mp e7
  have f1 : fB K n p 210 [fI x2, fI x1] σ := by
    obtain ⟨w, e6, e7⟩ := m4 (3362, [2, 1]) (List.mem_of_getElem? (i := 1) rfl)
    obtain rfl : [fI x2, fI x1] = w := Option.some.inj (show some [fI x2, fI x1] = some w from e6)
    exact (fF_b (r := 3362) (by decide) rfl).mp e7
  have f2 : fB K n p 39 [fI x2, fI x3] σ := by
    obtain ⟨w, e6, e7⟩ := m4 (626, [2, 3]) (List.mem_of_getElem? (i := 2) rfl)
    obtain rfl : [fI x2, fI x3] = w := Option.some.inj (show some [fI x2, fI x3] = some w from e6)
    exact (fF_b (r := 626) (by decide) rfl).mp e7
  have f3 : fB K n p 212 [fI x2, fI x1] σ := by
    obtain ⟨w, e6, e7⟩ := m4 (3394, [2, 1]) (List.mem_of_getElem? (i := 3) rfl)
    obtain rfl : [fI x2, fI x1] = w := Option.some.inj (show some [fI x2, fI x1] = some w from e6)
    exact (fF_b (r := 3394) (by decide) rfl).mp e7
  have f4 : fB K n p 1 [fR x4] σ := by
    obtain ⟨w, e6, e7⟩ := m4 (17, [4]) (List.mem_of_getElem? (i := 4) rfl)
    obtain rfl : [fR x4] = w := Option.some.inj (show some [fR x4] = some w from e6)
    exact (fF_b (r := 17) (by decide) rfl).mp e7
  clear m1 m2 m3 m4
  obtain ⟨y0_0, y0_1, e8_0, h0⟩ := fOr_l ((fE_o (by decide)).mp f0) (by rintro ⟨_, _, e9, -⟩; cases e9)
  cases e8_0
  obtain ⟨y1_0, y1_1, e8_1, h1⟩ := (fP_o (by decide)).mp f1
  cases e8_1
  obtain ⟨y2_0, y2_1, e9_2, h2⟩ := f2
  cases e9_2
  obtain ⟨y3_0, y3_1, e8_3, h3⟩ := fOr_r ((fP_o (by decide)).mp f3) (by rintro ⟨_, _, _, _, e9⟩; cases e9)
  cases e8_3
  obtain ⟨a9_4, e9_4, h4, g4⟩ := f4
  cases e9_4
  rw [fNc] at h2
  have hc : ((fq p).1 x2.toInt.toNat).toInt = x3.toInt := by rw [h2]
  have hF := fAt_of h4 s0
  have hsd := hF.2.1 x5 t0
  have hsi : ((fq p).2 2).toInt = x5.toInt := by rw [← hsd]
  have q0 : fB K n (p) 56 [fI x0, fI x2] σ := by
    refine (fE_o (by decide)).mpr (Or.inl ⟨x0, x2, rfl, ?_⟩)
    unfold fPg
    omega
  exact ⟨p, fun _ => rfl, ⟨(fun q h => by cases h), fun q h => (by cases h), (fun f h => by cases h), (aAllc ⟨_, rfl, (fF_b (r := 898) (by decide) rfl).mpr q0⟩ (fun f h => by cases h))⟩, [], List.mem_cons_self, fun f h => (by cases h)⟩
set_option maxRecDepth 8192 in
theorem rw_ruPN6b {K : Nat → Nat} {n : Nat} : aGho (fF K n) fa_T K n (fJX K n) ag_ruPN6b := by
  refine aGho_of ⟨rfl, rfl⟩ ?_
  intro p σ ρ hH hX hA hM
  have hG := aAG_of hA.1 (fun i e v he hv => (hA.2 i e v he hv).1)
  clear hA
  obtain ⟨v0, v1, v2, v3, v4, v5, rfl, g0, g1, g2, g3, g4, g5⟩ := fA_6 hG
  clear hG
  obtain ⟨x0, rfl, b0, d0⟩ := aG_int g0
  dsimp only at b0 d0
  obtain ⟨x1, rfl, b1, d1⟩ := aG_int g1
  dsimp only at b1 d1
  obtain ⟨x2, rfl, b2, d2⟩ := aG_int g2
  dsimp only at b2 d2
  obtain ⟨x3, rfl, b3, d3⟩ := aG_int g3
  dsimp only at b3 d3
  obtain ⟨x4, rfl, b4, d4⟩ := fG_ref (by decide) g4
  obtain ⟨x5, rfl, b5, d5⟩ := aG_int g5
  dsimp only at b5 d5
  obtain ⟨m1, m2, m3, m4⟩ := hM
  obtain ⟨a0, c0, fs0, w0, e1, s0, t0, e4⟩ := m1 (4, 2, 5) (List.mem_of_getElem? (i := 0) rfl)
  obtain rfl : x4 = a0 := Sum.inl.inj (Option.some.inj (Sum.inr.inj (Sum.inr.inj (Option.some.inj (show some (fR x4) = some _ from e1)))))
  obtain rfl : fI x5 = w0 := Option.some.inj (show some (fI x5) = some w0 from e4)
  clear e1 e4
  have f0 : fB K n p 59 [fI x0, fI x1] σ := by
    obtain ⟨w, e6, e7⟩ := m4 (946, [0, 1]) (List.mem_of_getElem? (i := 0) rfl)
    obtain rfl : [fI x0, fI x1] = w := Option.some.inj (show some [fI x0, fI x1] = some w from e6)
    exact (fF_b (r := 946) (by decide) rfl).mp e7
  have f1 : fB K n p 210 [fI x2, fI x1] σ := by
    obtain ⟨w, e6, e7⟩ := m4 (3362, [2, 1]) (List.mem_of_getElem? (i := 1) rfl)
    obtain rfl : [fI x2, fI x1] = w := Option.some.inj (show some [fI x2, fI x1] = some w from e6)
    exact (fF_b (r := 3362) (by decide) rfl).mp e7
  have f2 : fB K n p 39 [fI x2, fI x3] σ := by
    obtain ⟨w, e6, e7⟩ := m4 (626, [2, 3]) (List.mem_of_getElem? (i := 2) rfl)
    obtain rfl : [fI x2, fI x3] = w := Option.some.inj (show some [fI x2, fI x3] = some w from e6)
    exact (fF_b (r := 626) (by decide) rfl).mp e7
  have f3 : fB K n p 1 [fR x4] σ := by
    obtain ⟨w, e6, e7⟩ := m4 (17, [4]) (List.mem_of_getElem? (i := 3) rfl)
    obtain rfl : [fR x4] = w := Option.some.inj (show some [fR x4] = some w from e6)
    exact (fF_b (r := 17) (by decide) rfl).mp e7
  clear m1 m2 m3 m4
  obtain ⟨y0_0, y0_1, e8_0, h0⟩ := fOr_l ((fE_o (by decide)).mp f0) (by rintro ⟨_, _, e9, -⟩; cases e9)
  cases e8_0
  obtain ⟨y1_0, y1_1, e8_1, h1⟩ := (fP_o (by decide)).mp f1
  cases e8_1
  obtain ⟨y2_0, y2_1, e9_2, h2⟩ := f2
  cases e9_2
  obtain ⟨a9_3, e9_3, h3, g3⟩ := f3
  cases e9_3
  rw [fNc] at h2
  have hc : ((fq p).1 x2.toInt.toNat).toInt = x3.toInt := by rw [h2]
  have hF := fAt_of h3 s0
  have hsd := hF.2.1 x5 t0
  have hsi : ((fq p).2 2).toInt = x5.toInt := by rw [← hsd]
  have q0 : fB K n (p) 57 [fI x0, fI x2] σ := by
    refine (fE_o (by decide)).mpr (Or.inl ⟨x0, x2, rfl, ?_⟩)
    unfold fPg
    omega
  exact ⟨p, fun _ => rfl, ⟨(fun q h => by cases h), fun q h => (by cases h), (fun f h => by cases h), (aAllc ⟨_, rfl, (fF_b (r := 914) (by decide) rfl).mpr q0⟩ (fun f h => by cases h))⟩, [], List.mem_cons_self, fun f h => (by cases h)⟩
set_option maxRecDepth 8192 in
theorem rw_ruPG3b {K : Nat → Nat} {n : Nat} : aGho (fF K n) fa_T K n (fJX K n) ag_ruPG3b := by
  refine aGho_of ⟨rfl, rfl⟩ ?_
  intro p σ ρ hH hX hA hM
  have hG := aAG_of hA.1 (fun i e v he hv => (hA.2 i e v he hv).1)
  clear hA
  obtain ⟨v0, v1, v2, v3, v4, v5, rfl, g0, g1, g2, g3, g4, g5⟩ := fA_6 hG
  clear hG
  obtain ⟨x0, rfl, b0, d0⟩ := aG_int g0
  dsimp only at b0 d0
  obtain ⟨x1, rfl, b1, d1⟩ := aG_int g1
  dsimp only at b1 d1
  obtain ⟨x2, rfl, b2, d2⟩ := aG_int g2
  dsimp only at b2 d2
  obtain ⟨x3, rfl, b3, d3⟩ := aG_int g3
  dsimp only at b3 d3
  obtain ⟨x4, rfl, b4, d4⟩ := fG_ref (by decide) g4
  obtain ⟨x5, rfl, b5, d5⟩ := aG_int g5
  dsimp only at b5 d5
  obtain ⟨m1, m2, m3, m4⟩ := hM
  obtain ⟨a0, c0, fs0, w0, e1, s0, t0, e4⟩ := m1 (4, 2, 5) (List.mem_of_getElem? (i := 0) rfl)
  obtain rfl : x4 = a0 := Sum.inl.inj (Option.some.inj (Sum.inr.inj (Sum.inr.inj (Option.some.inj (show some (fR x4) = some _ from e1)))))
  obtain rfl : fI x5 = w0 := Option.some.inj (show some (fI x5) = some w0 from e4)
  clear e1 e4
  have f0 : fB K n p 59 [fI x0, fI x1] σ := by
    obtain ⟨w, e6, e7⟩ := m4 (946, [0, 1]) (List.mem_of_getElem? (i := 0) rfl)
    obtain rfl : [fI x0, fI x1] = w := Option.some.inj (show some [fI x0, fI x1] = some w from e6)
    exact (fF_b (r := 946) (by decide) rfl).mp e7
  have f1 : fB K n p 210 [fI x2, fI x1] σ := by
    obtain ⟨w, e6, e7⟩ := m4 (3362, [2, 1]) (List.mem_of_getElem? (i := 1) rfl)
    obtain rfl : [fI x2, fI x1] = w := Option.some.inj (show some [fI x2, fI x1] = some w from e6)
    exact (fF_b (r := 3362) (by decide) rfl).mp e7
  have f2 : fB K n p 39 [fI x2, fI x3] σ := by
    obtain ⟨w, e6, e7⟩ := m4 (626, [2, 3]) (List.mem_of_getElem? (i := 2) rfl)
    obtain rfl : [fI x2, fI x3] = w := Option.some.inj (show some [fI x2, fI x3] = some w from e6)
    exact (fF_b (r := 626) (by decide) rfl).mp e7
  have f3 : fB K n p 212 [fI x2, fI x1] σ := by
    obtain ⟨w, e6, e7⟩ := m4 (3394, [2, 1]) (List.mem_of_getElem? (i := 3) rfl)
    obtain rfl : [fI x2, fI x1] = w := Option.some.inj (show some [fI x2, fI x1] = some w from e6)
    exact (fF_b (r := 3394) (by decide) rfl).mp e7
  have f4 : fB K n p 1 [fR x4] σ := by
    obtain ⟨w, e6, e7⟩ := m4 (17, [4]) (List.mem_of_getElem? (i := 4) rfl)
    obtain rfl : [fR x4] = w := Option.some.inj (show some [fR x4] = some w from e6)
    exact (fF_b (r := 17) (by decide) rfl).mp e7
  clear m1 m2 m3 m4
  obtain ⟨y0_0, y0_1, e8_0, h0⟩ := fOr_l ((fE_o (by decide)).mp f0) (by rintro ⟨_, _, e9, -⟩; cases e9)
  cases e8_0
  obtain ⟨y1_0, y1_1, e8_1, h1⟩ := (fP_o (by decide)).mp f1
  cases e8_1
  obtain ⟨y2_0, y2_1, e9_2, h2⟩ := f2
  cases e9_2
  obtain ⟨y3_0, y3_1, e8_3, h3⟩ := fOr_r ((fP_o (by decide)).mp f3) (by rintro ⟨_, _, _, _, e9⟩; cases e9)
  cases e8_3
  obtain ⟨a9_4, e9_4, h4, g4⟩ := f4
  cases e9_4
  rw [fNc] at h2
  have hc : ((fq p).1 x2.toInt.toNat).toInt = x3.toInt := by rw [h2]
  have hF := fAt_of h4 s0
  have hsd := hF.2.1 x5 t0
  have hsi : ((fq p).2 2).toInt = x5.toInt := by rw [← hsd]
  have q0 : fB K n (p) 56 [fI x0, fI x2] σ := by
    refine (fE_o (by decide)).mpr (Or.inl ⟨x0, x2, rfl, ?_⟩)
    unfold fPg
    omega
  exact ⟨p, fun _ => rfl, ⟨(fun q h => by cases h), fun q h => (by cases h), (fun f h => by cases h), (aAllc ⟨_, rfl, (fF_b (r := 898) (by decide) rfl).mpr q0⟩ (fun f h => by cases h))⟩, [], List.mem_cons_self, fun f h => (by cases h)⟩
set_option maxRecDepth 8192 in
theorem rw_ruPTW {K : Nat → Nat} {n : Nat} : aGho (fF K n) fa_T K n (fJX K n) ag_ruPTW := by
  refine aGho_of ⟨rfl, rfl⟩ ?_
  intro p σ ρ hH hX hA hM
  have hG := aAG_of hA.1 (fun i e v he hv => (hA.2 i e v he hv).1)
  clear hA
  obtain ⟨v0, v1, v2, v3, v4, v5, v6, rfl, g0, g1, g2, g3, g4, g5, g6⟩ := fA_7 hG
  clear hG
  obtain ⟨x0, rfl, b0, d0⟩ := fG_ref (by decide) g0
  obtain ⟨x1, rfl, b1, d1⟩ := aG_int g1
  dsimp only at b1 d1
  obtain ⟨x2, rfl, b2, d2⟩ := aG_int g2
  dsimp only at b2 d2
  obtain ⟨x3, rfl, b3, d3⟩ := aG_int g3
  dsimp only at b3 d3
  obtain ⟨x4, rfl, b4, d4⟩ := aG_int g4
  dsimp only at b4 d4
  obtain ⟨x5, rfl, b5, d5⟩ := fG_ref (by decide) g5
  obtain ⟨x6, rfl, b6, d6⟩ := aG_int g6
  dsimp only at b6 d6
  obtain ⟨m1, m2, m3, m4⟩ := hM
  obtain ⟨a0, c0, fs0, w0, e1, s0, t0, e4⟩ := m1 (0, 0, 5) (List.mem_of_getElem? (i := 0) rfl)
  obtain rfl : x0 = a0 := Sum.inl.inj (Option.some.inj (Sum.inr.inj (Sum.inr.inj (Option.some.inj (show some (fR x0) = some _ from e1)))))
  obtain rfl : fR x5 = w0 := Option.some.inj (show some (fR x5) = some w0 from e4)
  clear e1 e4
  obtain ⟨a1, c1, fs1, w1, e1, s1, t1, e4⟩ := m1 (0, 2, 6) (List.mem_of_getElem? (i := 1) rfl)
  obtain rfl : x0 = a1 := Sum.inl.inj (Option.some.inj (Sum.inr.inj (Sum.inr.inj (Option.some.inj (show some (fR x0) = some _ from e1)))))
  obtain rfl : fI x6 = w1 := Option.some.inj (show some (fI x6) = some w1 from e4)
  clear e1 e4
  obtain ⟨a, mc0, ty0, gc0, ic0, e1, sc0, jc0, e4, e5⟩ := m2 (5, ([(2, 1), (3, 1)], 0), 4) (List.mem_of_getElem? (i := 0) rfl)
  obtain rfl : x5 = a := Sum.inl.inj (Option.some.inj (Sum.inr.inj (Sum.inr.inj (Option.some.inj (show some (fR x5) = some _ from e1)))))
  obtain ⟨gc0, rfl⟩ : ∃ g, gc0 = .inl g := by
    rcases gc0 with g | g
    · exact ⟨g, rfl⟩
    · exact absurd (show some (fI x4) = some (.inr (.inl (g ic0))) from e5) (fun h => by cases h)
  have sc0 : σ x5 = .inl (ty0, mc0, .inl gc0) := sc0
  have ec0 : x4 = gc0 ic0 := Sum.inl.inj (Option.some.inj (show some (fI x4) = some _ from e5))
  have kc0 : (ic0 : Int) = (1 * x2.toInt + (1 * x3.toInt + 0)) + 0 := by
    obtain ⟨z, e6, e7⟩ := e4
    obtain rfl : (1 * x2.toInt + (1 * x3.toInt + 0)) = z := Option.some.inj (show some (1 * x2.toInt + (1 * x3.toInt + 0)) = some z from e6)
    exact e7
  clear e1 e4 e5
  have l0 : 0 ≤ (1 * x3.toInt + (16 * x6.toInt + 0)) + -8 := by
    obtain ⟨z, e6, e7⟩ := m3 ([(3, 1), (6, 16)], -8) (List.mem_of_getElem? (i := 0) rfl)
    obtain rfl : (1 * x3.toInt + (16 * x6.toInt + 0)) = z := Option.some.inj (show some (1 * x3.toInt + (16 * x6.toInt + 0)) = some z from e6)
    exact e7
  have l1 : 0 ≤ (-1 * x3.toInt + (-16 * x6.toInt + 0)) + 8 := by
    obtain ⟨z, e6, e7⟩ := m3 ([(3, -1), (6, -16)], 8) (List.mem_of_getElem? (i := 1) rfl)
    obtain rfl : (-1 * x3.toInt + (-16 * x6.toInt + 0)) = z := Option.some.inj (show some (-1 * x3.toInt + (-16 * x6.toInt + 0)) = some z from e6)
    exact e7
  have f0 : fB K n p 1 [fR x0] σ := by
    obtain ⟨w, e6, e7⟩ := m4 (17, [0]) (List.mem_of_getElem? (i := 0) rfl)
    obtain rfl : [fR x0] = w := Option.some.inj (show some [fR x0] = some w from e6)
    exact (fF_b (r := 17) (by decide) rfl).mp e7
  have f1 : fB K n p 59 [fI x1, fI x2] σ := by
    obtain ⟨w, e6, e7⟩ := m4 (946, [1, 2]) (List.mem_of_getElem? (i := 1) rfl)
    obtain rfl : [fI x1, fI x2] = w := Option.some.inj (show some [fI x1, fI x2] = some w from e6)
    exact (fF_b (r := 946) (by decide) rfl).mp e7
  clear m1 m2 m3 m4
  obtain ⟨a9_0, e9_0, h0, g0⟩ := f0
  cases e9_0
  obtain ⟨y1_0, y1_1, e8_1, h1⟩ := fOr_l ((fE_o (by decide)).mp f1) (by rintro ⟨_, _, e9, -⟩; cases e9)
  cases e8_1
  have hF := fAt_of h0 s0
  obtain ⟨gB, hr1, hr2⟩ := hF.1 x5 t0
  rw [hr1] at sc0
  cases sc0
  have hsd := hF.2.1 x6 (by rw [s0] at s1; cases s1; exact t1)
  have hsi : ((fq p).2 2).toInt = x6.toInt := by rw [← hsd]
  have q0 : fB K n (p) 59 [fI x1, fI x1, fI x4] σ := by
    refine (fE_o (by decide)).mpr (Or.inr ⟨x1, x4, rfl, ?_⟩)
    rw [show (fOne (fq p).2 x1.toInt + 8 - 16 * ((fq p).2 2).toInt).toNat = ic0 by omega, ← hr2 _ (by omega), ← ec0]
  exact ⟨p, fun _ => rfl, ⟨(fun q h => by cases h), fun q h => (by cases h), (fun f h => by cases h), (aAllc ⟨_, rfl, (fF_b (r := 947) (by decide) rfl).mpr q0⟩ (fun f h => by cases h))⟩, [], List.mem_cons_self, fun f h => (by cases h)⟩
set_option maxRecDepth 8192 in
theorem rw_ruRKa {K : Nat → Nat} {n : Nat} : aGho (fF K n) fa_T K n (fJX K n) ag_ruRKa := by
  refine aGho_of ⟨rfl, rfl⟩ ?_
  intro p σ ρ hH hX hA hM
  have hG := aAG_of hA.1 (fun i e v he hv => (hA.2 i e v he hv).1)
  clear hA
  obtain ⟨v0, v1, v2, v3, rfl, g0, g1, g2, g3⟩ := fA_4 hG
  clear hG
  obtain ⟨x0, rfl, b0, d0⟩ := fG_ref (by decide) g0
  obtain ⟨x1, rfl, b1, d1⟩ := aG_int g1
  dsimp only at b1 d1
  obtain ⟨x2, rfl, b2, d2⟩ := aG_int g2
  dsimp only at b2 d2
  obtain ⟨x3, rfl, b3, d3⟩ := aG_int g3
  dsimp only at b3 d3
  obtain ⟨m1, m2, m3, m4⟩ := hM
  obtain ⟨a0, c0, fs0, w0, e1, s0, t0, e4⟩ := m1 (0, 2, 3) (List.mem_of_getElem? (i := 0) rfl)
  obtain rfl : x0 = a0 := Sum.inl.inj (Option.some.inj (Sum.inr.inj (Sum.inr.inj (Option.some.inj (show some (fR x0) = some _ from e1)))))
  obtain rfl : fI x3 = w0 := Option.some.inj (show some (fI x3) = some w0 from e4)
  clear e1 e4
  have l0 : 0 ≤ (1 * x1.toInt + (-8 * x2.toInt + 0)) + 0 := by
    obtain ⟨z, e6, e7⟩ := m3 ([(1, 1), (2, -8)], 0) (List.mem_of_getElem? (i := 0) rfl)
    obtain rfl : (1 * x1.toInt + (-8 * x2.toInt + 0)) = z := Option.some.inj (show some (1 * x1.toInt + (-8 * x2.toInt + 0)) = some z from e6)
    exact e7
  have l1 : 0 ≤ (-1 * x1.toInt + (8 * x2.toInt + 0)) + 7 := by
    obtain ⟨z, e6, e7⟩ := m3 ([(1, -1), (2, 8)], 7) (List.mem_of_getElem? (i := 1) rfl)
    obtain rfl : (-1 * x1.toInt + (8 * x2.toInt + 0)) = z := Option.some.inj (show some (-1 * x1.toInt + (8 * x2.toInt + 0)) = some z from e6)
    exact e7
  have f0 : fB K n p 1 [fR x0] σ := by
    obtain ⟨w, e6, e7⟩ := m4 (17, [0]) (List.mem_of_getElem? (i := 0) rfl)
    obtain rfl : [fR x0] = w := Option.some.inj (show some [fR x0] = some w from e6)
    exact (fF_b (r := 17) (by decide) rfl).mp e7
  clear m1 m2 m3 m4
  obtain ⟨a9_0, e9_0, h0, g0⟩ := f0
  cases e9_0
  have hF := fAt_of h0 s0
  have hsd := hF.2.1 x3 t0
  have hsi : ((fq p).2 2).toInt = x3.toInt := by rw [← hsd]
  have q0 : fB K n (p) 58 [fI x1] σ := by
    refine (fE_o (by decide)).mpr (Or.inr ⟨x1, rfl, by omega⟩)
  exact ⟨p, fun _ => rfl, ⟨(fun q h => by cases h), fun q h => (by cases h), (fun f h => by cases h), (aAllc ⟨_, rfl, (fF_b (r := 929) (by decide) rfl).mpr q0⟩ (fun f h => by cases h))⟩, [], List.mem_cons_self, fun f h => (by cases h)⟩
set_option maxRecDepth 8192 in
theorem rw_ruRKb {K : Nat → Nat} {n : Nat} : aGho (fF K n) fa_T K n (fJX K n) ag_ruRKb := by
  refine aGho_of ⟨rfl, rfl⟩ ?_
  intro p σ ρ hH hX hA hM
  have hG := aAG_of hA.1 (fun i e v he hv => (hA.2 i e v he hv).1)
  clear hA
  obtain ⟨v0, v1, v2, v3, rfl, g0, g1, g2, g3⟩ := fA_4 hG
  clear hG
  obtain ⟨x0, rfl, b0, d0⟩ := fG_ref (by decide) g0
  obtain ⟨x1, rfl, b1, d1⟩ := aG_int g1
  dsimp only at b1 d1
  obtain ⟨x2, rfl, b2, d2⟩ := aG_int g2
  dsimp only at b2 d2
  obtain ⟨x3, rfl, b3, d3⟩ := aG_int g3
  dsimp only at b3 d3
  obtain ⟨m1, m2, m3, m4⟩ := hM
  obtain ⟨a0, c0, fs0, w0, e1, s0, t0, e4⟩ := m1 (0, 2, 3) (List.mem_of_getElem? (i := 0) rfl)
  obtain rfl : x0 = a0 := Sum.inl.inj (Option.some.inj (Sum.inr.inj (Sum.inr.inj (Option.some.inj (show some (fR x0) = some _ from e1)))))
  obtain rfl : fI x3 = w0 := Option.some.inj (show some (fI x3) = some w0 from e4)
  clear e1 e4
  have l0 : 0 ≤ (1 * x1.toInt + (-8 * x2.toInt + 0)) + 0 := by
    obtain ⟨z, e6, e7⟩ := m3 ([(1, 1), (2, -8)], 0) (List.mem_of_getElem? (i := 0) rfl)
    obtain rfl : (1 * x1.toInt + (-8 * x2.toInt + 0)) = z := Option.some.inj (show some (1 * x1.toInt + (-8 * x2.toInt + 0)) = some z from e6)
    exact e7
  have l1 : 0 ≤ (-1 * x1.toInt + (8 * x2.toInt + 0)) + 7 := by
    obtain ⟨z, e6, e7⟩ := m3 ([(1, -1), (2, 8)], 7) (List.mem_of_getElem? (i := 1) rfl)
    obtain rfl : (-1 * x1.toInt + (8 * x2.toInt + 0)) = z := Option.some.inj (show some (-1 * x1.toInt + (8 * x2.toInt + 0)) = some z from e6)
    exact e7
  have f0 : fB K n p 1 [fR x0] σ := by
    obtain ⟨w, e6, e7⟩ := m4 (17, [0]) (List.mem_of_getElem? (i := 0) rfl)
    obtain rfl : [fR x0] = w := Option.some.inj (show some [fR x0] = some w from e6)
    exact (fF_b (r := 17) (by decide) rfl).mp e7
  clear m1 m2 m3 m4
  obtain ⟨a9_0, e9_0, h0, g0⟩ := f0
  cases e9_0
  have hF := fAt_of h0 s0
  have hsd := hF.2.1 x3 t0
  have hsi : ((fq p).2 2).toInt = x3.toInt := by rw [← hsd]
  have q0 : fB K n (p) 58 [fI x1] σ := by
    refine (fE_o (by decide)).mpr (Or.inr ⟨x1, rfl, by omega⟩)
  exact ⟨p, fun _ => rfl, ⟨(fun q h => by cases h), fun q h => (by cases h), (fun f h => by cases h), (aAllc ⟨_, rfl, (fF_b (r := 929) (by decide) rfl).mpr q0⟩ (fun f h => by cases h))⟩, [], List.mem_cons_self, fun f h => (by cases h)⟩
set_option maxRecDepth 8192 in
theorem rw_ruRKc {K : Nat → Nat} {n : Nat} : aGho (fF K n) fa_T K n (fJX K n) ag_ruRKc := by
  refine aGho_of ⟨rfl, rfl⟩ ?_
  intro p σ ρ hH hX hA hM
  have hG := aAG_of hA.1 (fun i e v he hv => (hA.2 i e v he hv).1)
  clear hA
  obtain ⟨v0, v1, v2, v3, rfl, g0, g1, g2, g3⟩ := fA_4 hG
  clear hG
  obtain ⟨x0, rfl, b0, d0⟩ := fG_ref (by decide) g0
  obtain ⟨x1, rfl, b1, d1⟩ := aG_int g1
  dsimp only at b1 d1
  obtain ⟨x2, rfl, b2, d2⟩ := aG_int g2
  dsimp only at b2 d2
  obtain ⟨x3, rfl, b3, d3⟩ := aG_int g3
  dsimp only at b3 d3
  obtain ⟨m1, m2, m3, m4⟩ := hM
  obtain ⟨a0, c0, fs0, w0, e1, s0, t0, e4⟩ := m1 (0, 2, 3) (List.mem_of_getElem? (i := 0) rfl)
  obtain rfl : x0 = a0 := Sum.inl.inj (Option.some.inj (Sum.inr.inj (Sum.inr.inj (Option.some.inj (show some (fR x0) = some _ from e1)))))
  obtain rfl : fI x3 = w0 := Option.some.inj (show some (fI x3) = some w0 from e4)
  clear e1 e4
  have l0 : 0 ≤ (1 * x1.toInt + (-8 * x2.toInt + 0)) + 0 := by
    obtain ⟨z, e6, e7⟩ := m3 ([(1, 1), (2, -8)], 0) (List.mem_of_getElem? (i := 0) rfl)
    obtain rfl : (1 * x1.toInt + (-8 * x2.toInt + 0)) = z := Option.some.inj (show some (1 * x1.toInt + (-8 * x2.toInt + 0)) = some z from e6)
    exact e7
  have l1 : 0 ≤ (-1 * x1.toInt + (8 * x2.toInt + 0)) + 7 := by
    obtain ⟨z, e6, e7⟩ := m3 ([(1, -1), (2, 8)], 7) (List.mem_of_getElem? (i := 1) rfl)
    obtain rfl : (-1 * x1.toInt + (8 * x2.toInt + 0)) = z := Option.some.inj (show some (-1 * x1.toInt + (8 * x2.toInt + 0)) = some z from e6)
    exact e7
  have f0 : fB K n p 1 [fR x0] σ := by
    obtain ⟨w, e6, e7⟩ := m4 (17, [0]) (List.mem_of_getElem? (i := 0) rfl)
    obtain rfl : [fR x0] = w := Option.some.inj (show some [fR x0] = some w from e6)
    exact (fF_b (r := 17) (by decide) rfl).mp e7
  clear m1 m2 m3 m4
  obtain ⟨a9_0, e9_0, h0, g0⟩ := f0
  cases e9_0
  have hF := fAt_of h0 s0
  have hsd := hF.2.1 x3 t0
  have hsi : ((fq p).2 2).toInt = x3.toInt := by rw [← hsd]
  have q0 : fB K n (p) 58 [fI x1] σ := by
    refine (fE_o (by decide)).mpr (Or.inr ⟨x1, rfl, by omega⟩)
  exact ⟨p, fun _ => rfl, ⟨(fun q h => by cases h), fun q h => (by cases h), (fun f h => by cases h), (aAllc ⟨_, rfl, (fF_b (r := 929) (by decide) rfl).mpr q0⟩ (fun f h => by cases h))⟩, [], List.mem_cons_self, fun f h => (by cases h)⟩
set_option maxRecDepth 8192 in
theorem rw_ruRKd {K : Nat → Nat} {n : Nat} : aGho (fF K n) fa_T K n (fJX K n) ag_ruRKd := by
  refine aGho_of ⟨rfl, rfl⟩ ?_
  intro p σ ρ hH hX hA hM
  have hG := aAG_of hA.1 (fun i e v he hv => (hA.2 i e v he hv).1)
  clear hA
  obtain ⟨v0, v1, v2, v3, rfl, g0, g1, g2, g3⟩ := fA_4 hG
  clear hG
  obtain ⟨x0, rfl, b0, d0⟩ := fG_ref (by decide) g0
  obtain ⟨x1, rfl, b1, d1⟩ := aG_int g1
  dsimp only at b1 d1
  obtain ⟨x2, rfl, b2, d2⟩ := aG_int g2
  dsimp only at b2 d2
  obtain ⟨x3, rfl, b3, d3⟩ := aG_int g3
  dsimp only at b3 d3
  obtain ⟨m1, m2, m3, m4⟩ := hM
  obtain ⟨a0, c0, fs0, w0, e1, s0, t0, e4⟩ := m1 (0, 2, 3) (List.mem_of_getElem? (i := 0) rfl)
  obtain rfl : x0 = a0 := Sum.inl.inj (Option.some.inj (Sum.inr.inj (Sum.inr.inj (Option.some.inj (show some (fR x0) = some _ from e1)))))
  obtain rfl : fI x3 = w0 := Option.some.inj (show some (fI x3) = some w0 from e4)
  clear e1 e4
  have l0 : 0 ≤ (1 * x1.toInt + (-8 * x2.toInt + 0)) + 0 := by
    obtain ⟨z, e6, e7⟩ := m3 ([(1, 1), (2, -8)], 0) (List.mem_of_getElem? (i := 0) rfl)
    obtain rfl : (1 * x1.toInt + (-8 * x2.toInt + 0)) = z := Option.some.inj (show some (1 * x1.toInt + (-8 * x2.toInt + 0)) = some z from e6)
    exact e7
  have l1 : 0 ≤ (-1 * x1.toInt + (8 * x2.toInt + 0)) + 7 := by
    obtain ⟨z, e6, e7⟩ := m3 ([(1, -1), (2, 8)], 7) (List.mem_of_getElem? (i := 1) rfl)
    obtain rfl : (-1 * x1.toInt + (8 * x2.toInt + 0)) = z := Option.some.inj (show some (-1 * x1.toInt + (8 * x2.toInt + 0)) = some z from e6)
    exact e7
  have f0 : fB K n p 1 [fR x0] σ := by
    obtain ⟨w, e6, e7⟩ := m4 (17, [0]) (List.mem_of_getElem? (i := 0) rfl)
    obtain rfl : [fR x0] = w := Option.some.inj (show some [fR x0] = some w from e6)
    exact (fF_b (r := 17) (by decide) rfl).mp e7
  clear m1 m2 m3 m4
  obtain ⟨a9_0, e9_0, h0, g0⟩ := f0
  cases e9_0
  have hF := fAt_of h0 s0
  have hsd := hF.2.1 x3 t0
  have hsi : ((fq p).2 2).toInt = x3.toInt := by rw [← hsd]
  have q0 : fB K n (p) 58 [fI x1] σ := by
    refine (fE_o (by decide)).mpr (Or.inr ⟨x1, rfl, by omega⟩)
  exact ⟨p, fun _ => rfl, ⟨(fun q h => by cases h), fun q h => (by cases h), (fun f h => by cases h), (aAllc ⟨_, rfl, (fF_b (r := 929) (by decide) rfl).mpr q0⟩ (fun f h => by cases h))⟩, [], List.mem_cons_self, fun f h => (by cases h)⟩
set_option maxRecDepth 8192 in
theorem rw_ruGSaSE {K : Nat → Nat} {n : Nat} : aGho (fF K n) fa_T K n (fJX K n) ag_ruGSaSE := by
  refine aGho_of ⟨rfl, rfl⟩ ?_
  intro p σ ρ hH hX hA hM
  have hG := aAG_of hA.1 (fun i e v he hv => (hA.2 i e v he hv).1)
  clear hA
  obtain ⟨v0, v1, v2, v3, v4, rfl, g0, g1, g2, g3, g4⟩ := fA_5 hG
  clear hG
  obtain ⟨x0, rfl, b0, d0⟩ := fG_ref (by decide) g0
  obtain ⟨x1, rfl, b1, d1⟩ := aG_int g1
  dsimp only at b1 d1
  obtain ⟨x2, rfl, b2, d2⟩ := aG_int g2
  dsimp only at b2 d2
  obtain ⟨x3, rfl, b3, d3⟩ := aG_int g3
  dsimp only at b3 d3
  obtain ⟨x4, rfl, b4, d4⟩ := aG_int g4
  dsimp only at b4 d4
  obtain ⟨m1, m2, m3, m4⟩ := hM
  clear m1 m2 m3 m4
  have q0 : fB K n (p) 77 [fR x0, fI x1, fI x1, fI x2, fI x3, fI x4] σ := by
    obtain ⟨g, hg9⟩ := fRow hH b0 d0 rfl (by decide)
    refine (fL_o (by decide) (by decide)).mpr ⟨x0, x1, x1, _, _, _, rfl, ⟨x2, x3, x4, rfl, rfl, rfl, by omega⟩, ?_⟩
    exact fCv_0 b0 (by unfold fRw; omega) hg9 (by have e1 : fEc 77 = 0 := rfl; show x1.toInt + fEc 77 ≤ x1.toInt; omega) (by
      rintro x ⟨j, q, hs, hp, -⟩
      have := hs.1
      have := hs.2.2.1
      omega)
  exact ⟨p, fun _ => rfl, ⟨(fun q h => by cases h), fun q h => (by cases h), (fun f h => by cases h), (aAllc ⟨_, rfl, (fF_b (r := 1238) (by decide) rfl).mpr q0⟩ (fun f h => by cases h))⟩, [], List.mem_cons_self, fun f h => (by cases h)⟩
set_option maxRecDepth 8192 in
theorem rw_ruGScSE {K : Nat → Nat} {n : Nat} : aGho (fF K n) fa_T K n (fJX K n) ag_ruGScSE := by
  refine aGho_of ⟨rfl, rfl⟩ ?_
  intro p σ ρ hH hX hA hM
  have hG := aAG_of hA.1 (fun i e v he hv => (hA.2 i e v he hv).1)
  clear hA
  obtain ⟨v0, v1, v2, v3, v4, rfl, g0, g1, g2, g3, g4⟩ := fA_5 hG
  clear hG
  obtain ⟨x0, rfl, b0, d0⟩ := fG_ref (by decide) g0
  obtain ⟨x1, rfl, b1, d1⟩ := aG_int g1
  dsimp only at b1 d1
  obtain ⟨x2, rfl, b2, d2⟩ := aG_int g2
  dsimp only at b2 d2
  obtain ⟨x3, rfl, b3, d3⟩ := aG_int g3
  dsimp only at b3 d3
  obtain ⟨x4, rfl, b4, d4⟩ := aG_int g4
  dsimp only at b4 d4
  obtain ⟨m1, m2, m3, m4⟩ := hM
  clear m1 m2 m3 m4
  have q0 : fB K n (p) 77 [fR x0, fI x1, fI x1, fI x2, fI x3, fI x4] σ := by
    obtain ⟨g, hg9⟩ := fRow hH b0 d0 rfl (by decide)
    refine (fL_o (by decide) (by decide)).mpr ⟨x0, x1, x1, _, _, _, rfl, ⟨x2, x3, x4, rfl, rfl, rfl, by omega⟩, ?_⟩
    exact fCv_0 b0 (by unfold fRw; omega) hg9 (by have e1 : fEc 77 = 0 := rfl; show x1.toInt + fEc 77 ≤ x1.toInt; omega) (by
      rintro x ⟨j, q, hs, hp, -⟩
      have := hs.1
      have := hs.2.2.1
      omega)
  exact ⟨p, fun _ => rfl, ⟨(fun q h => by cases h), fun q h => (by cases h), (fun f h => by cases h), (aAllc ⟨_, rfl, (fF_b (r := 1238) (by decide) rfl).mpr q0⟩ (fun f h => by cases h))⟩, [], List.mem_cons_self, fun f h => (by cases h)⟩
set_option maxRecDepth 8192 in
theorem rw_ruGSk3SE {K : Nat → Nat} {n : Nat} : aGho (fF K n) fa_T K n (fJX K n) ag_ruGSk3SE := by
  refine aGho_of ⟨rfl, rfl⟩ ?_
  intro p σ ρ hH hX hA hM
  have hG := aAG_of hA.1 (fun i e v he hv => (hA.2 i e v he hv).1)
  clear hA
  obtain ⟨v0, v1, v2, v3, v4, v5, v6, rfl, g0, g1, g2, g3, g4, g5, g6⟩ := fA_7 hG
  clear hG
  obtain ⟨x0, rfl, b0, d0⟩ := fG_ref (by decide) g0
  obtain ⟨x1, rfl, b1, d1⟩ := aG_int g1
  dsimp only at b1 d1
  obtain ⟨x2, rfl, b2, d2⟩ := aG_int g2
  dsimp only at b2 d2
  obtain ⟨x3, rfl, b3, d3⟩ := aG_int g3
  dsimp only at b3 d3
  obtain ⟨x4, rfl, b4, d4⟩ := aG_int g4
  dsimp only at b4 d4
  obtain ⟨x5, rfl, b5, d5⟩ := aG_int g5
  dsimp only at b5 d5
  obtain ⟨x6, rfl, b6, d6⟩ := aG_int g6
  dsimp only at b6 d6
  obtain ⟨m1, m2, m3, m4⟩ := hM
  have f0 : fB K n p 77 [fR x0, fI x1, fI x2, fI x3, fI x4, fI x5] σ := by
    obtain ⟨w, e6, e7⟩ := m4 (1238, [0, 1, 2, 3, 4, 5]) (List.mem_of_getElem? (i := 0) rfl)
    obtain rfl : [fR x0, fI x1, fI x2, fI x3, fI x4, fI x5] = w := Option.some.inj (show some [fR x0, fI x1, fI x2, fI x3, fI x4, fI x5] = some w from e6)
    exact (fF_b (r := 1238) (by decide) rfl).mp e7
  clear m1 m2 m3 m4
  obtain ⟨a9_0, lo9_0, hi9_0, r9_0, S0, C0, e9_0, T0, V0⟩ := (fL_o (by decide) (by decide)).mp f0
  cases e9_0
  obtain ⟨y0_0, y0_1, y0_2, e8_0, eS0, eC0, z0⟩ := T0
  cases e8_0
  subst eS0
  subst eC0
  have q0 : fB K n (p) 78 [fR x0, fI x1, fI x2, fI x3, fI x4, fI x5, fI x6] σ := by
    refine (fL_o (by decide) (by decide)).mpr ⟨x0, x1, x2, _, _, _, rfl, ⟨x3, x4, x5, x6, rfl, rfl, rfl, fun q h1 h2 => by omega, z0, by omega⟩, ?_⟩
    exact fCv_w V0 ((show _ = x1.toInt from rfl).trans (show x1.toInt = _ from rfl)) (by have e1 : fEc 77 = 0 := rfl; have e2 : fEc 78 = 0 := rfl; omega) (fun x h => h) (by
      rintro x ⟨j, q, hs, hp, hx⟩
      have := hs.2.2.2.2.1
      exact ⟨j, q, hs, by omega, hx⟩)
  exact ⟨p, fun _ => rfl, ⟨(fun q h => by cases h), fun q h => (by cases h), (fun f h => by cases h), (aAllc ⟨_, rfl, (fF_b (r := 1255) (by decide) rfl).mpr q0⟩ (fun f h => by cases h))⟩, [], List.mem_cons_self, fun f h => (by cases h)⟩
set_option maxRecDepth 8192 in
theorem rw_ruGSk4SE {K : Nat → Nat} {n : Nat} : aGho (fF K n) fa_T K n (fJX K n) ag_ruGSk4SE := by
  refine aGho_of ⟨rfl, rfl⟩ ?_
  intro p σ ρ hH hX hA hM
  have hG := aAG_of hA.1 (fun i e v he hv => (hA.2 i e v he hv).1)
  clear hA
  obtain ⟨v0, v1, v2, v3, v4, v5, v6, rfl, g0, g1, g2, g3, g4, g5, g6⟩ := fA_7 hG
  clear hG
  obtain ⟨x0, rfl, b0, d0⟩ := fG_ref (by decide) g0
  obtain ⟨x1, rfl, b1, d1⟩ := aG_int g1
  dsimp only at b1 d1
  obtain ⟨x2, rfl, b2, d2⟩ := aG_int g2
  dsimp only at b2 d2
  obtain ⟨x3, rfl, b3, d3⟩ := aG_int g3
  dsimp only at b3 d3
  obtain ⟨x4, rfl, b4, d4⟩ := aG_int g4
  dsimp only at b4 d4
  obtain ⟨x5, rfl, b5, d5⟩ := aG_int g5
  dsimp only at b5 d5
  obtain ⟨x6, rfl, b6, d6⟩ := aG_int g6
  dsimp only at b6 d6
  obtain ⟨m1, m2, m3, m4⟩ := hM
  have f0 : fB K n p 77 [fR x0, fI x1, fI x2, fI x3, fI x4, fI x5] σ := by
    obtain ⟨w, e6, e7⟩ := m4 (1238, [0, 1, 2, 3, 4, 5]) (List.mem_of_getElem? (i := 0) rfl)
    obtain rfl : [fR x0, fI x1, fI x2, fI x3, fI x4, fI x5] = w := Option.some.inj (show some [fR x0, fI x1, fI x2, fI x3, fI x4, fI x5] = some w from e6)
    exact (fF_b (r := 1238) (by decide) rfl).mp e7
  clear m1 m2 m3 m4
  obtain ⟨a9_0, lo9_0, hi9_0, r9_0, S0, C0, e9_0, T0, V0⟩ := (fL_o (by decide) (by decide)).mp f0
  cases e9_0
  obtain ⟨y0_0, y0_1, y0_2, e8_0, eS0, eC0, z0⟩ := T0
  cases e8_0
  subst eS0
  subst eC0
  have q0 : fB K n (p) 78 [fR x0, fI x1, fI x2, fI x3, fI x4, fI x5, fI x6] σ := by
    refine (fL_o (by decide) (by decide)).mpr ⟨x0, x1, x2, _, _, _, rfl, ⟨x3, x4, x5, x6, rfl, rfl, rfl, fun q h1 h2 => by omega, z0, by omega⟩, ?_⟩
    exact fCv_w V0 ((show _ = x1.toInt from rfl).trans (show x1.toInt = _ from rfl)) (by have e1 : fEc 77 = 0 := rfl; have e2 : fEc 78 = 0 := rfl; omega) (fun x h => h) (by
      rintro x ⟨j, q, hs, hp, hx⟩
      have := hs.2.2.2.2.1
      exact ⟨j, q, hs, by omega, hx⟩)
  exact ⟨p, fun _ => rfl, ⟨(fun q h => by cases h), fun q h => (by cases h), (fun f h => by cases h), (aAllc ⟨_, rfl, (fF_b (r := 1255) (by decide) rfl).mpr q0⟩ (fun f h => by cases h))⟩, [], List.mem_cons_self, fun f h => (by cases h)⟩
set_option maxRecDepth 8192 in
theorem rw_ruGSk5SE {K : Nat → Nat} {n : Nat} : aGho (fF K n) fa_T K n (fJX K n) ag_ruGSk5SE := by
  refine aGho_of ⟨rfl, rfl⟩ ?_
  intro p σ ρ hH hX hA hM
  have hG := aAG_of hA.1 (fun i e v he hv => (hA.2 i e v he hv).1)
  clear hA
  obtain ⟨v0, v1, v2, v3, v4, v5, v6, rfl, g0, g1, g2, g3, g4, g5, g6⟩ := fA_7 hG
  clear hG
  obtain ⟨x0, rfl, b0, d0⟩ := fG_ref (by decide) g0
  obtain ⟨x1, rfl, b1, d1⟩ := aG_int g1
  dsimp only at b1 d1
  obtain ⟨x2, rfl, b2, d2⟩ := aG_int g2
  dsimp only at b2 d2
  obtain ⟨x3, rfl, b3, d3⟩ := aG_int g3
  dsimp only at b3 d3
  obtain ⟨x4, rfl, b4, d4⟩ := aG_int g4
  dsimp only at b4 d4
  obtain ⟨x5, rfl, b5, d5⟩ := aG_int g5
  dsimp only at b5 d5
  obtain ⟨x6, rfl, b6, d6⟩ := aG_int g6
  dsimp only at b6 d6
  obtain ⟨m1, m2, m3, m4⟩ := hM
  have f0 : fB K n p 77 [fR x0, fI x1, fI x2, fI x3, fI x4, fI x5] σ := by
    obtain ⟨w, e6, e7⟩ := m4 (1238, [0, 1, 2, 3, 4, 5]) (List.mem_of_getElem? (i := 0) rfl)
    obtain rfl : [fR x0, fI x1, fI x2, fI x3, fI x4, fI x5] = w := Option.some.inj (show some [fR x0, fI x1, fI x2, fI x3, fI x4, fI x5] = some w from e6)
    exact (fF_b (r := 1238) (by decide) rfl).mp e7
  clear m1 m2 m3 m4
  obtain ⟨a9_0, lo9_0, hi9_0, r9_0, S0, C0, e9_0, T0, V0⟩ := (fL_o (by decide) (by decide)).mp f0
  cases e9_0
  obtain ⟨y0_0, y0_1, y0_2, e8_0, eS0, eC0, z0⟩ := T0
  cases e8_0
  subst eS0
  subst eC0
  have q0 : fB K n (p) 78 [fR x0, fI x1, fI x2, fI x3, fI x4, fI x5, fI x6] σ := by
    refine (fL_o (by decide) (by decide)).mpr ⟨x0, x1, x2, _, _, _, rfl, ⟨x3, x4, x5, x6, rfl, rfl, rfl, fun q h1 h2 => by omega, z0, by omega⟩, ?_⟩
    exact fCv_w V0 ((show _ = x1.toInt from rfl).trans (show x1.toInt = _ from rfl)) (by have e1 : fEc 77 = 0 := rfl; have e2 : fEc 78 = 0 := rfl; omega) (fun x h => h) (by
      rintro x ⟨j, q, hs, hp, hx⟩
      have := hs.2.2.2.2.1
      exact ⟨j, q, hs, by omega, hx⟩)
  exact ⟨p, fun _ => rfl, ⟨(fun q h => by cases h), fun q h => (by cases h), (fun f h => by cases h), (aAllc ⟨_, rfl, (fF_b (r := 1255) (by decide) rfl).mpr q0⟩ (fun f h => by cases h))⟩, [], List.mem_cons_self, fun f h => (by cases h)⟩
set_option maxRecDepth 8192 in
theorem rw_ruGSsSE {K : Nat → Nat} {n : Nat} : aGho (fF K n) fa_T K n (fJX K n) ag_ruGSsSE := by
  refine aGho_of ⟨rfl, rfl⟩ ?_
  intro p σ ρ hH hX hA hM
  have hG := aAG_of hA.1 (fun i e v he hv => (hA.2 i e v he hv).1)
  clear hA
  obtain ⟨v0, v1, v2, v3, v4, v5, v6, v7, v8, rfl, g0, g1, g2, g3, g4, g5, g6, g7, g8⟩ := fA_9 hG
  clear hG
  obtain ⟨x0, rfl, b0, d0⟩ := fG_ref (by decide) g0
  obtain ⟨x1, rfl, b1, d1⟩ := aG_int g1
  dsimp only at b1 d1
  obtain ⟨x2, rfl, b2, d2⟩ := aG_int g2
  dsimp only at b2 d2
  obtain ⟨x3, rfl, b3, d3⟩ := aG_int g3
  dsimp only at b3 d3
  obtain ⟨x4, rfl, b4, d4⟩ := aG_int g4
  dsimp only at b4 d4
  obtain ⟨x5, rfl, b5, d5⟩ := aG_int g5
  dsimp only at b5 d5
  obtain ⟨x6, rfl, b6, d6⟩ := aG_int g6
  dsimp only at b6 d6
  obtain ⟨x7, rfl, b7, d7⟩ := aG_int g7
  dsimp only at b7 d7
  obtain ⟨x8, rfl, b8, d8⟩ := aG_int g8
  dsimp only at b8 d8
  obtain ⟨m1, m2, m3, m4⟩ := hM
  have l0 : 0 ≤ (1 * x2.toInt + (-512 * x4.toInt + (-8 * x5.toInt + 0))) + 0 := by
    obtain ⟨z, e6, e7⟩ := m3 ([(2, 1), (4, -512), (5, -8)], 0) (List.mem_of_getElem? (i := 0) rfl)
    obtain rfl : (1 * x2.toInt + (-512 * x4.toInt + (-8 * x5.toInt + 0))) = z := Option.some.inj (show some (1 * x2.toInt + (-512 * x4.toInt + (-8 * x5.toInt + 0))) = some z from e6)
    exact e7
  have l1 : 0 ≤ (-1 * x2.toInt + (512 * x4.toInt + (8 * x5.toInt + 0))) + 0 := by
    obtain ⟨z, e6, e7⟩ := m3 ([(2, -1), (4, 512), (5, 8)], 0) (List.mem_of_getElem? (i := 1) rfl)
    obtain rfl : (-1 * x2.toInt + (512 * x4.toInt + (8 * x5.toInt + 0))) = z := Option.some.inj (show some (-1 * x2.toInt + (512 * x4.toInt + (8 * x5.toInt + 0))) = some z from e6)
    exact e7
  have l2 : 0 ≤ (1 * x1.toInt + (-1 * x3.toInt + 0)) + 0 := by
    obtain ⟨z, e6, e7⟩ := m3 ([(1, 1), (3, -1)], 0) (List.mem_of_getElem? (i := 2) rfl)
    obtain rfl : (1 * x1.toInt + (-1 * x3.toInt + 0)) = z := Option.some.inj (show some (1 * x1.toInt + (-1 * x3.toInt + 0)) = some z from e6)
    exact e7
  have f0 : fB K n p 78 [fR x0, fI x3, fI x1, fI x4, fI x6, fI x7, fI x8] σ := by
    obtain ⟨w, e6, e7⟩ := m4 (1255, [0, 3, 1, 4, 6, 7, 8]) (List.mem_of_getElem? (i := 0) rfl)
    obtain rfl : [fR x0, fI x3, fI x1, fI x4, fI x6, fI x7, fI x8] = w := Option.some.inj (show some [fR x0, fI x3, fI x1, fI x4, fI x6, fI x7, fI x8] = some w from e6)
    exact (fF_b (r := 1255) (by decide) rfl).mp e7
  have f1 : fB K n p 18 [fI x4, fI x7, fI x8, fI x5] σ := by
    obtain ⟨w, e6, e7⟩ := m4 (292, [4, 7, 8, 5]) (List.mem_of_getElem? (i := 1) rfl)
    obtain rfl : [fI x4, fI x7, fI x8, fI x5] = w := Option.some.inj (show some [fI x4, fI x7, fI x8, fI x5] = some w from e6)
    exact (fF_b (r := 292) (by decide) rfl).mp e7
  have f2 : fB K n p 48 [fI x5] σ := by
    obtain ⟨w, e6, e7⟩ := m4 (769, [5]) (List.mem_of_getElem? (i := 2) rfl)
    obtain rfl : [fI x5] = w := Option.some.inj (show some [fI x5] = some w from e6)
    exact (fF_b (r := 769) (by decide) rfl).mp e7
  clear m1 m2 m3 m4
  obtain ⟨a9_0, lo9_0, hi9_0, r9_0, S0, C0, e9_0, T0, V0⟩ := (fL_o (by decide) (by decide)).mp f0
  cases e9_0
  obtain ⟨y0_0, y0_1, y0_2, y0_3, e8_0, eS0, eC0, m0, z0, o0⟩ := T0
  cases e8_0
  subst eS0
  subst eC0
  obtain ⟨y1_0, y1_1, y1_2, y1_3, e9_1, h1, i1, t1_⟩ := f1
  cases e9_1
  obtain ⟨y2_0, e8_2, h2⟩ := (fE_o (by decide)).mp f2
  cases e8_2
  have q0 : fB K n (p) 79 [fR x0, fI x3, fI x1, fI x4, fI x6, fI x7, fI x8] (jup σ x0 (jsto (σ x0) x1.toNatClampNeg x2)) := by
    refine (fL_o (by decide) (by decide)).mpr ⟨x0, x3, x1, _, _, _, rfl, ⟨x4, x6, x7, x8, rfl, rfl, rfl, m0, z0, o0⟩, ?_⟩
    exact fCv_st V0 (by rw [fNc]; have e1 : fEc 78 = 0 := rfl; omega) (by have e1 : fEc 78 = 0 := rfl; show x3.toInt ≤ _; omega) (by have e1 : fEc 78 = 0 := rfl; have e2 : fEc 79 = 1 := rfl; omega) (⟨x7.toInt, x8.toInt, ⟨by omega, by omega, z0, o0, h1, i1, m0, by rw [← t1_]; exact h2⟩, trivial, by rw [← t1_]; omega⟩) (by
      rintro y ⟨j, q, hs, hp, hy⟩
      by_cases hh : j = x7.toInt ∧ q = x8.toInt
      · exact Or.inr (fI32 (by rw [hy, hh.1, hh.2, ← t1_]; omega))
      · exact Or.inl ⟨j, q, hs, by omega, hy⟩)
  exact ⟨p, fun _ => rfl, ⟨(fun q h => by cases h), fun q h => (by cases h), (fun f h => by cases h), (aAllc ⟨_, rfl, fF_p (r := 1271) (by decide) (by decide) rfl q0⟩ (fun f h => by cases h))⟩, [], List.mem_cons_self, fun f h => (by cases h)⟩
set_option maxRecDepth 8192 in
theorem rw_ruGSnSE {K : Nat → Nat} {n : Nat} : aGho (fF K n) fa_T K n (fJX K n) ag_ruGSnSE := by
  refine aGho_of ⟨rfl, rfl⟩ ?_
  intro p σ ρ hH hX hA hM
  have hG := aAG_of hA.1 (fun i e v he hv => (hA.2 i e v he hv).1)
  clear hA
  obtain ⟨v0, v1, v2, v3, v4, v5, v6, v7, rfl, g0, g1, g2, g3, g4, g5, g6, g7⟩ := fA_8 hG
  clear hG
  obtain ⟨x0, rfl, b0, d0⟩ := fG_ref (by decide) g0
  obtain ⟨x1, rfl, b1, d1⟩ := aG_int g1
  dsimp only at b1 d1
  obtain ⟨x2, rfl, b2, d2⟩ := aG_int g2
  dsimp only at b2 d2
  obtain ⟨x3, rfl, b3, d3⟩ := aG_int g3
  dsimp only at b3 d3
  obtain ⟨x4, rfl, b4, d4⟩ := aG_int g4
  dsimp only at b4 d4
  obtain ⟨x5, rfl, b5, d5⟩ := aG_int g5
  dsimp only at b5 d5
  obtain ⟨x6, rfl, b6, d6⟩ := aG_int g6
  dsimp only at b6 d6
  obtain ⟨x7, rfl, b7, d7⟩ := aG_int g7
  dsimp only at b7 d7
  obtain ⟨m1, m2, m3, m4⟩ := hM
  have l0 : 0 ≤ (1 * x7.toInt + (-1 * x2.toInt + 0)) + -1 := by
    obtain ⟨z, e6, e7⟩ := m3 ([(7, 1), (2, -1)], -1) (List.mem_of_getElem? (i := 0) rfl)
    obtain rfl : (1 * x7.toInt + (-1 * x2.toInt + 0)) = z := Option.some.inj (show some (1 * x7.toInt + (-1 * x2.toInt + 0)) = some z from e6)
    exact e7
  have l1 : 0 ≤ (-1 * x7.toInt + (1 * x2.toInt + 0)) + 1 := by
    obtain ⟨z, e6, e7⟩ := m3 ([(7, -1), (2, 1)], 1) (List.mem_of_getElem? (i := 1) rfl)
    obtain rfl : (-1 * x7.toInt + (1 * x2.toInt + 0)) = z := Option.some.inj (show some (-1 * x7.toInt + (1 * x2.toInt + 0)) = some z from e6)
    exact e7
  have f0 : fB K n p 79 [fR x0, fI x1, fI x2, fI x3, fI x4, fI x5, fI x6] σ := by
    obtain ⟨w, e6, e7⟩ := m4 (1271, [0, 1, 2, 3, 4, 5, 6]) (List.mem_of_getElem? (i := 0) rfl)
    obtain rfl : [fR x0, fI x1, fI x2, fI x3, fI x4, fI x5, fI x6] = w := Option.some.inj (show some [fR x0, fI x1, fI x2, fI x3, fI x4, fI x5, fI x6] = some w from e6)
    exact (fF_b (r := 1271) (by decide) rfl).mp e7
  clear m1 m2 m3 m4
  obtain ⟨a9_0, lo9_0, hi9_0, r9_0, S0, C0, e9_0, T0, V0⟩ := (fL_o (by decide) (by decide)).mp f0
  cases e9_0
  obtain ⟨y0_0, y0_1, y0_2, y0_3, e8_0, eS0, eC0, m0, z0, o0⟩ := T0
  cases e8_0
  subst eS0
  subst eC0
  have q0 : fB K n (p) 80 [fR x0, fI x1, fI x7, fI x3, fI x4, fI x5, fI x6] σ := by
    refine (fL_o (by decide) (by decide)).mpr ⟨x0, x1, x7, _, _, _, rfl, ⟨x3, x4, x5, x6, rfl, rfl, rfl, m0, z0, o0⟩, ?_⟩
    exact fCv_w V0 ((show _ = x1.toInt from rfl).trans (show x1.toInt = _ from rfl)) (by have e1 : fEc 79 = 1 := rfl; have e2 : fEc 80 = 0 := rfl; omega) (fun x h => h) (by
      exact fun x h => h)
  exact ⟨p, fun _ => rfl, ⟨(fun q h => by cases h), fun q h => (by cases h), (fun f h => by cases h), (aAllc ⟨_, rfl, (fF_b (r := 1287) (by decide) rfl).mpr q0⟩ (fun f h => by cases h))⟩, [], List.mem_cons_self, fun f h => (by cases h)⟩
set_option maxRecDepth 8192 in
theorem rw_ruGSoSE {K : Nat → Nat} {n : Nat} : aGho (fF K n) fa_T K n (fJX K n) ag_ruGSoSE := by
  refine aGho_of ⟨rfl, rfl⟩ ?_
  intro p σ ρ hH hX hA hM
  have hG := aAG_of hA.1 (fun i e v he hv => (hA.2 i e v he hv).1)
  clear hA
  obtain ⟨v0, v1, v2, v3, v4, v5, v6, v7, rfl, g0, g1, g2, g3, g4, g5, g6, g7⟩ := fA_8 hG
  clear hG
  obtain ⟨x0, rfl, b0, d0⟩ := fG_ref (by decide) g0
  obtain ⟨x1, rfl, b1, d1⟩ := aG_int g1
  dsimp only at b1 d1
  obtain ⟨x2, rfl, b2, d2⟩ := aG_int g2
  dsimp only at b2 d2
  obtain ⟨x3, rfl, b3, d3⟩ := aG_int g3
  dsimp only at b3 d3
  obtain ⟨x4, rfl, b4, d4⟩ := aG_int g4
  dsimp only at b4 d4
  obtain ⟨x5, rfl, b5, d5⟩ := aG_int g5
  dsimp only at b5 d5
  obtain ⟨x6, rfl, b6, d6⟩ := aG_int g6
  dsimp only at b6 d6
  obtain ⟨x7, rfl, b7, d7⟩ := aG_int g7
  dsimp only at b7 d7
  obtain ⟨m1, m2, m3, m4⟩ := hM
  have f0 : fB K n p 78 [fR x0, fI x1, fI x2, fI x3, fI x4, fI x5, fI x6] σ := by
    obtain ⟨w, e6, e7⟩ := m4 (1255, [0, 1, 2, 3, 4, 5, 6]) (List.mem_of_getElem? (i := 0) rfl)
    obtain rfl : [fR x0, fI x1, fI x2, fI x3, fI x4, fI x5, fI x6] = w := Option.some.inj (show some [fR x0, fI x1, fI x2, fI x3, fI x4, fI x5, fI x6] = some w from e6)
    exact (fF_b (r := 1255) (by decide) rfl).mp e7
  have f1 : fB K n p 18 [fI x3, fI x5, fI x6, fI x7] σ := by
    obtain ⟨w, e6, e7⟩ := m4 (292, [3, 5, 6, 7]) (List.mem_of_getElem? (i := 1) rfl)
    obtain rfl : [fI x3, fI x5, fI x6, fI x7] = w := Option.some.inj (show some [fI x3, fI x5, fI x6, fI x7] = some w from e6)
    exact (fF_b (r := 292) (by decide) rfl).mp e7
  have f2 : fB K n p 49 [fI x7] σ := by
    obtain ⟨w, e6, e7⟩ := m4 (785, [7]) (List.mem_of_getElem? (i := 2) rfl)
    obtain rfl : [fI x7] = w := Option.some.inj (show some [fI x7] = some w from e6)
    exact (fF_b (r := 785) (by decide) rfl).mp e7
  clear m1 m2 m3 m4
  obtain ⟨a9_0, lo9_0, hi9_0, r9_0, S0, C0, e9_0, T0, V0⟩ := (fL_o (by decide) (by decide)).mp f0
  cases e9_0
  obtain ⟨y0_0, y0_1, y0_2, y0_3, e8_0, eS0, eC0, m0, z0, o0⟩ := T0
  cases e8_0
  subst eS0
  subst eC0
  obtain ⟨y1_0, y1_1, y1_2, y1_3, e9_1, h1, i1, t1_⟩ := f1
  cases e9_1
  obtain ⟨y2_0, e8_2, h2⟩ := (fE_o (by decide)).mp f2
  cases e8_2
  have q0 : fB K n (p) 80 [fR x0, fI x1, fI x2, fI x3, fI x4, fI x5, fI x6] σ := by
    refine (fL_o (by decide) (by decide)).mpr ⟨x0, x1, x2, _, _, _, rfl, ⟨x3, x4, x5, x6, rfl, rfl, rfl, m0, z0, o0⟩, ?_⟩
    exact fCv_w V0 ((show _ = x1.toInt from rfl).trans (show x1.toInt = _ from rfl)) (by have e1 : fEc 78 = 0 := rfl; have e2 : fEc 80 = 0 := rfl; omega) (fun x h => h) (by
      rintro y ⟨j, q, hs, hp, hy⟩
      refine ⟨j, q, hs, ?_, hy⟩
      by_cases hh : j = x5.toInt ∧ q = x6.toInt
      · exfalso
        have h9 := hs.2.2.2.2.2.2.2
        rw [hh.1, hh.2, ← t1_] at h9
        exact h9.elim h2.1 (fun h => h h2.2)
      · omega)
  exact ⟨p, fun _ => rfl, ⟨(fun q h => by cases h), fun q h => (by cases h), (fun f h => by cases h), (aAllc ⟨_, rfl, (fF_b (r := 1287) (by decide) rfl).mpr q0⟩ (fun f h => by cases h))⟩, [], List.mem_cons_self, fun f h => (by cases h)⟩
set_option maxRecDepth 8192 in
theorem rw_ruGSqSE {K : Nat → Nat} {n : Nat} : aGho (fF K n) fa_T K n (fJX K n) ag_ruGSqSE := by
  refine aGho_of ⟨rfl, rfl⟩ ?_
  intro p σ ρ hH hX hA hM
  have hG := aAG_of hA.1 (fun i e v he hv => (hA.2 i e v he hv).1)
  clear hA
  obtain ⟨v0, v1, v2, v3, v4, v5, v6, v7, v8, v9, v10, v11, rfl, g0, g1, g2, g3, g4, g5, g6, g7, g8, g9, g10, g11⟩ := fA_12 hG
  clear hG
  obtain ⟨x0, rfl, b0, d0⟩ := fG_ref (by decide) g0
  obtain ⟨x1, rfl, b1, d1⟩ := aG_int g1
  dsimp only at b1 d1
  obtain ⟨x2, rfl, b2, d2⟩ := aG_int g2
  dsimp only at b2 d2
  obtain ⟨x3, rfl, b3, d3⟩ := aG_int g3
  dsimp only at b3 d3
  obtain ⟨x4, rfl, b4, d4⟩ := aG_int g4
  dsimp only at b4 d4
  obtain ⟨x5, rfl, b5, d5⟩ := aG_int g5
  dsimp only at b5 d5
  obtain ⟨x6, rfl, b6, d6⟩ := aG_int g6
  dsimp only at b6 d6
  obtain ⟨x7, rfl, b7, d7⟩ := aG_int g7
  dsimp only at b7 d7
  obtain ⟨x8, rfl, b8, d8⟩ := aG_int g8
  dsimp only at b8 d8
  obtain ⟨x9, rfl, b9, d9⟩ := fG_ref (by decide) g9
  obtain ⟨x10, rfl, b10, d10⟩ := aG_int g10
  dsimp only at b10 d10
  obtain ⟨x11, rfl, b11, d11⟩ := fG_ref (by decide) g11
  obtain ⟨m1, m2, m3, m4⟩ := hM
  obtain ⟨a0, c0, fs0, w0, e1, s0, t0, e4⟩ := m1 (9, 0, 11) (List.mem_of_getElem? (i := 0) rfl)
  obtain rfl : x9 = a0 := Sum.inl.inj (Option.some.inj (Sum.inr.inj (Sum.inr.inj (Option.some.inj (show some (fR x9) = some _ from e1)))))
  obtain rfl : fR x11 = w0 := Option.some.inj (show some (fR x11) = some w0 from e4)
  clear e1 e4
  obtain ⟨a, mc0, ty0, gc0, ic0, e1, sc0, jc0, e4, e5⟩ := m2 (11, ([(7, 1)], 0), 10) (List.mem_of_getElem? (i := 0) rfl)
  obtain rfl : x11 = a := Sum.inl.inj (Option.some.inj (Sum.inr.inj (Sum.inr.inj (Option.some.inj (show some (fR x11) = some _ from e1)))))
  obtain ⟨gc0, rfl⟩ : ∃ g, gc0 = .inl g := by
    rcases gc0 with g | g
    · exact ⟨g, rfl⟩
    · exact absurd (show some (fI x10) = some (.inr (.inl (g ic0))) from e5) (fun h => by cases h)
  have sc0 : σ x11 = .inl (ty0, mc0, .inl gc0) := sc0
  have ec0 : x10 = gc0 ic0 := Sum.inl.inj (Option.some.inj (show some (fI x10) = some _ from e5))
  have kc0 : (ic0 : Int) = (1 * x7.toInt + 0) + 0 := by
    obtain ⟨z, e6, e7⟩ := e4
    obtain rfl : (1 * x7.toInt + 0) = z := Option.some.inj (show some (1 * x7.toInt + 0) = some z from e6)
    exact e7
  clear e1 e4 e5
  obtain rfl : ic0 = x7.toInt.toNat := by omega
  have l0 : 0 ≤ (1 * x8.toInt + (-1 * x6.toInt + 0)) + -1 := by
    obtain ⟨z, e6, e7⟩ := m3 ([(8, 1), (6, -1)], -1) (List.mem_of_getElem? (i := 0) rfl)
    obtain rfl : (1 * x8.toInt + (-1 * x6.toInt + 0)) = z := Option.some.inj (show some (1 * x8.toInt + (-1 * x6.toInt + 0)) = some z from e6)
    exact e7
  have l1 : 0 ≤ (-1 * x8.toInt + (1 * x6.toInt + 0)) + 1 := by
    obtain ⟨z, e6, e7⟩ := m3 ([(8, -1), (6, 1)], 1) (List.mem_of_getElem? (i := 1) rfl)
    obtain rfl : (-1 * x8.toInt + (1 * x6.toInt + 0)) = z := Option.some.inj (show some (-1 * x8.toInt + (1 * x6.toInt + 0)) = some z from e6)
    exact e7
  have f0 : fB K n p 1 [fR x9] σ := by
    obtain ⟨w, e6, e7⟩ := m4 (17, [9]) (List.mem_of_getElem? (i := 0) rfl)
    obtain rfl : [fR x9] = w := Option.some.inj (show some [fR x9] = some w from e6)
    exact (fF_b (r := 17) (by decide) rfl).mp e7
  have f1 : fB K n p 80 [fR x0, fI x1, fI x2, fI x3, fI x4, fI x5, fI x6] σ := by
    obtain ⟨w, e6, e7⟩ := m4 (1287, [0, 1, 2, 3, 4, 5, 6]) (List.mem_of_getElem? (i := 1) rfl)
    obtain rfl : [fR x0, fI x1, fI x2, fI x3, fI x4, fI x5, fI x6] = w := Option.some.inj (show some [fR x0, fI x1, fI x2, fI x3, fI x4, fI x5, fI x6] = some w from e6)
    exact (fF_b (r := 1287) (by decide) rfl).mp e7
  have f2 : fB K n p 18 [fI x3, fI x5, fI x6, fI x7] σ := by
    obtain ⟨w, e6, e7⟩ := m4 (292, [3, 5, 6, 7]) (List.mem_of_getElem? (i := 2) rfl)
    obtain rfl : [fI x3, fI x5, fI x6, fI x7] = w := Option.some.inj (show some [fI x3, fI x5, fI x6, fI x7] = some w from e6)
    exact (fF_b (r := 292) (by decide) rfl).mp e7
  clear m1 m2 m3 m4
  obtain ⟨a9_0, e9_0, h0, g0⟩ := f0
  cases e9_0
  obtain ⟨a9_1, lo9_1, hi9_1, r9_1, S1, C1, e9_1, T1, V1⟩ := (fL_o (by decide) (by decide)).mp f1
  cases e9_1
  obtain ⟨y1_0, y1_1, y1_2, y1_3, e8_1, eS1, eC1, m1, z1, o1⟩ := T1
  cases e8_1
  subst eS1
  subst eC1
  obtain ⟨y2_0, y2_1, y2_2, y2_3, e9_2, h2, i2, t2_⟩ := f2
  cases e9_2
  have hF := fAt_of h0 s0
  obtain ⟨gB, hr1, hr2⟩ := hF.1 x11 t0
  rw [hr1] at sc0
  cases sc0
  have q0 : fB K n (p) 78 [fR x0, fI x1, fI x2, fI x3, fI x4, fI x5, fI x8] σ := by
    refine (fL_o (by decide) (by decide)).mpr ⟨x0, x1, x2, _, _, _, rfl, ⟨x3, x4, x5, x8, rfl, rfl, rfl, ?_, z1, o1⟩, ?_⟩
    · intro q h1 h2
      by_cases hq : q < x6.toInt
      · exact m1 q h1 hq
      · rw [show q = x6.toInt by omega, ← t2_, ← hr2 _ (by omega), ← ec0]
        omega
    · exact fCv_w V1 ((show _ = x1.toInt from rfl).trans (show x1.toInt = _ from rfl)) (by have e1 : fEc 80 = 0 := rfl; have e2 : fEc 78 = 0 := rfl; omega) (fun x h => h) (by
      rintro y ⟨j, q, hs, hp, hy⟩
      exact ⟨j, q, hs, by omega, hy⟩)
  exact ⟨p, fun _ => rfl, ⟨(fun q h => by cases h), fun q h => (by cases h), (fun f h => by cases h), (aAllc ⟨_, rfl, (fF_b (r := 1255) (by decide) rfl).mpr q0⟩ (fun f h => by cases h))⟩, [], List.mem_cons_self, fun f h => (by cases h)⟩
set_option maxRecDepth 8192 in
theorem rw_ruGSbSE {K : Nat → Nat} {n : Nat} : aGho (fF K n) fa_T K n (fJX K n) ag_ruGSbSE := by
  refine aGho_of ⟨rfl, rfl⟩ ?_
  intro p σ ρ hH hX hA hM
  have hG := aAG_of hA.1 (fun i e v he hv => (hA.2 i e v he hv).1)
  clear hA
  obtain ⟨v0, v1, v2, v3, v4, v5, v6, v7, v8, v9, v10, v11, rfl, g0, g1, g2, g3, g4, g5, g6, g7, g8, g9, g10, g11⟩ := fA_12 hG
  clear hG
  obtain ⟨x0, rfl, b0, d0⟩ := fG_ref (by decide) g0
  obtain ⟨x1, rfl, b1, d1⟩ := aG_int g1
  dsimp only at b1 d1
  obtain ⟨x2, rfl, b2, d2⟩ := aG_int g2
  dsimp only at b2 d2
  obtain ⟨x3, rfl, b3, d3⟩ := aG_int g3
  dsimp only at b3 d3
  obtain ⟨x4, rfl, b4, d4⟩ := aG_int g4
  dsimp only at b4 d4
  obtain ⟨x5, rfl, b5, d5⟩ := aG_int g5
  dsimp only at b5 d5
  obtain ⟨x6, rfl, b6, d6⟩ := aG_int g6
  dsimp only at b6 d6
  obtain ⟨x7, rfl, b7, d7⟩ := aG_int g7
  dsimp only at b7 d7
  obtain ⟨x8, rfl, b8, d8⟩ := aG_int g8
  dsimp only at b8 d8
  obtain ⟨x9, rfl, b9, d9⟩ := fG_ref (by decide) g9
  obtain ⟨x10, rfl, b10, d10⟩ := aG_int g10
  dsimp only at b10 d10
  obtain ⟨x11, rfl, b11, d11⟩ := fG_ref (by decide) g11
  obtain ⟨m1, m2, m3, m4⟩ := hM
  obtain ⟨a0, c0, fs0, w0, e1, s0, t0, e4⟩ := m1 (9, 0, 11) (List.mem_of_getElem? (i := 0) rfl)
  obtain rfl : x9 = a0 := Sum.inl.inj (Option.some.inj (Sum.inr.inj (Sum.inr.inj (Option.some.inj (show some (fR x9) = some _ from e1)))))
  obtain rfl : fR x11 = w0 := Option.some.inj (show some (fR x11) = some w0 from e4)
  clear e1 e4
  obtain ⟨a, mc0, ty0, gc0, ic0, e1, sc0, jc0, e4, e5⟩ := m2 (11, ([(7, 1)], 0), 10) (List.mem_of_getElem? (i := 0) rfl)
  obtain rfl : x11 = a := Sum.inl.inj (Option.some.inj (Sum.inr.inj (Sum.inr.inj (Option.some.inj (show some (fR x11) = some _ from e1)))))
  obtain ⟨gc0, rfl⟩ : ∃ g, gc0 = .inl g := by
    rcases gc0 with g | g
    · exact ⟨g, rfl⟩
    · exact absurd (show some (fI x10) = some (.inr (.inl (g ic0))) from e5) (fun h => by cases h)
  have sc0 : σ x11 = .inl (ty0, mc0, .inl gc0) := sc0
  have ec0 : x10 = gc0 ic0 := Sum.inl.inj (Option.some.inj (show some (fI x10) = some _ from e5))
  have kc0 : (ic0 : Int) = (1 * x7.toInt + 0) + 0 := by
    obtain ⟨z, e6, e7⟩ := e4
    obtain rfl : (1 * x7.toInt + 0) = z := Option.some.inj (show some (1 * x7.toInt + 0) = some z from e6)
    exact e7
  clear e1 e4 e5
  obtain rfl : ic0 = x7.toInt.toNat := by omega
  have l0 : 0 ≤ (1 * x8.toInt + (-1 * x5.toInt + 0)) + -1 := by
    obtain ⟨z, e6, e7⟩ := m3 ([(8, 1), (5, -1)], -1) (List.mem_of_getElem? (i := 0) rfl)
    obtain rfl : (1 * x8.toInt + (-1 * x5.toInt + 0)) = z := Option.some.inj (show some (1 * x8.toInt + (-1 * x5.toInt + 0)) = some z from e6)
    exact e7
  have l1 : 0 ≤ (-1 * x8.toInt + (1 * x5.toInt + 0)) + 1 := by
    obtain ⟨z, e6, e7⟩ := m3 ([(8, -1), (5, 1)], 1) (List.mem_of_getElem? (i := 1) rfl)
    obtain rfl : (-1 * x8.toInt + (1 * x5.toInt + 0)) = z := Option.some.inj (show some (-1 * x8.toInt + (1 * x5.toInt + 0)) = some z from e6)
    exact e7
  have f0 : fB K n p 1 [fR x9] σ := by
    obtain ⟨w, e6, e7⟩ := m4 (17, [9]) (List.mem_of_getElem? (i := 0) rfl)
    obtain rfl : [fR x9] = w := Option.some.inj (show some [fR x9] = some w from e6)
    exact (fF_b (r := 17) (by decide) rfl).mp e7
  have f1 : fB K n p 80 [fR x0, fI x1, fI x2, fI x3, fI x4, fI x5, fI x6] σ := by
    obtain ⟨w, e6, e7⟩ := m4 (1287, [0, 1, 2, 3, 4, 5, 6]) (List.mem_of_getElem? (i := 1) rfl)
    obtain rfl : [fR x0, fI x1, fI x2, fI x3, fI x4, fI x5, fI x6] = w := Option.some.inj (show some [fR x0, fI x1, fI x2, fI x3, fI x4, fI x5, fI x6] = some w from e6)
    exact (fF_b (r := 1287) (by decide) rfl).mp e7
  have f2 : fB K n p 18 [fI x3, fI x5, fI x6, fI x7] σ := by
    obtain ⟨w, e6, e7⟩ := m4 (292, [3, 5, 6, 7]) (List.mem_of_getElem? (i := 2) rfl)
    obtain rfl : [fI x3, fI x5, fI x6, fI x7] = w := Option.some.inj (show some [fI x3, fI x5, fI x6, fI x7] = some w from e6)
    exact (fF_b (r := 292) (by decide) rfl).mp e7
  clear m1 m2 m3 m4
  obtain ⟨a9_0, e9_0, h0, g0⟩ := f0
  cases e9_0
  obtain ⟨a9_1, lo9_1, hi9_1, r9_1, S1, C1, e9_1, T1, V1⟩ := (fL_o (by decide) (by decide)).mp f1
  cases e9_1
  obtain ⟨y1_0, y1_1, y1_2, y1_3, e8_1, eS1, eC1, m1, z1, o1⟩ := T1
  cases e8_1
  subst eS1
  subst eC1
  obtain ⟨y2_0, y2_1, y2_2, y2_3, e9_2, h2, i2, t2_⟩ := f2
  cases e9_2
  have hF := fAt_of h0 s0
  obtain ⟨gB, hr1, hr2⟩ := hF.1 x11 t0
  rw [hr1] at sc0
  cases sc0
  have q0 : fB K n (p) 77 [fR x0, fI x1, fI x2, fI x3, fI x4, fI x8] σ := by
    refine (fL_o (by decide) (by decide)).mpr ⟨x0, x1, x2, _, _, _, rfl, ⟨x3, x4, x8, rfl, rfl, rfl, by omega⟩, ?_⟩
    exact fCv_w V1 ((show _ = x1.toInt from rfl).trans (show x1.toInt = _ from rfl)) (by have e1 : fEc 80 = 0 := rfl; have e2 : fEc 77 = 0 := rfl; omega) (fun x h => h) (by
      rintro y ⟨j, q, hs, hp, hy⟩
      refine ⟨j, q, hs, ?_, hy⟩
      by_cases hh : j = x5.toInt ∧ x6.toInt < q
      · exfalso
        have h9 := hs.2.2.2.2.2.2.1 x6.toInt h2 hh.2
        rw [hh.1, ← t2_, ← hr2 _ (by omega), ← ec0] at h9
        omega
      · omega)
  exact ⟨p, fun _ => rfl, ⟨(fun q h => by cases h), fun q h => (by cases h), (fun f h => by cases h), (aAllc ⟨_, rfl, (fF_b (r := 1238) (by decide) rfl).mpr q0⟩ (fun f h => by cases h))⟩, [], List.mem_cons_self, fun f h => (by cases h)⟩
set_option maxRecDepth 8192 in
theorem rw_ruGSeSE {K : Nat → Nat} {n : Nat} : aGho (fF K n) fa_T K n (fJX K n) ag_ruGSeSE := by
  refine aGho_of ⟨rfl, rfl⟩ ?_
  intro p σ ρ hH hX hA hM
  have hG := aAG_of hA.1 (fun i e v he hv => (hA.2 i e v he hv).1)
  clear hA
  obtain ⟨v0, v1, v2, v3, v4, v5, v6, v7, v8, rfl, g0, g1, g2, g3, g4, g5, g6, g7, g8⟩ := fA_9 hG
  clear hG
  obtain ⟨x0, rfl, b0, d0⟩ := fG_ref (by decide) g0
  obtain ⟨x1, rfl, b1, d1⟩ := aG_int g1
  dsimp only at b1 d1
  obtain ⟨x2, rfl, b2, d2⟩ := aG_int g2
  dsimp only at b2 d2
  obtain ⟨x3, rfl, b3, d3⟩ := aG_int g3
  dsimp only at b3 d3
  obtain ⟨x4, rfl, b4, d4⟩ := aG_int g4
  dsimp only at b4 d4
  obtain ⟨x5, rfl, b5, d5⟩ := aG_int g5
  dsimp only at b5 d5
  obtain ⟨x6, rfl, b6, d6⟩ := aG_int g6
  dsimp only at b6 d6
  obtain ⟨x7, rfl, b7, d7⟩ := aG_int g7
  dsimp only at b7 d7
  obtain ⟨x8, rfl, b8, d8⟩ := aG_int g8
  dsimp only at b8 d8
  obtain ⟨m1, m2, m3, m4⟩ := hM
  have l0 : 0 ≤ (1 * x8.toInt + (-1 * x5.toInt + 0)) + -1 := by
    obtain ⟨z, e6, e7⟩ := m3 ([(8, 1), (5, -1)], -1) (List.mem_of_getElem? (i := 0) rfl)
    obtain rfl : (1 * x8.toInt + (-1 * x5.toInt + 0)) = z := Option.some.inj (show some (1 * x8.toInt + (-1 * x5.toInt + 0)) = some z from e6)
    exact e7
  have l1 : 0 ≤ (-1 * x8.toInt + (1 * x5.toInt + 0)) + 1 := by
    obtain ⟨z, e6, e7⟩ := m3 ([(8, -1), (5, 1)], 1) (List.mem_of_getElem? (i := 1) rfl)
    obtain rfl : (-1 * x8.toInt + (1 * x5.toInt + 0)) = z := Option.some.inj (show some (-1 * x8.toInt + (1 * x5.toInt + 0)) = some z from e6)
    exact e7
  have l2 : 0 ≤ (1 * x6.toInt + (-1 * x7.toInt + 0)) + -1 := by
    obtain ⟨z, e6, e7⟩ := m3 ([(6, 1), (7, -1)], -1) (List.mem_of_getElem? (i := 2) rfl)
    obtain rfl : (1 * x6.toInt + (-1 * x7.toInt + 0)) = z := Option.some.inj (show some (1 * x6.toInt + (-1 * x7.toInt + 0)) = some z from e6)
    exact e7
  have f0 : fB K n p 78 [fR x0, fI x1, fI x2, fI x3, fI x4, fI x5, fI x6] σ := by
    obtain ⟨w, e6, e7⟩ := m4 (1255, [0, 1, 2, 3, 4, 5, 6]) (List.mem_of_getElem? (i := 0) rfl)
    obtain rfl : [fR x0, fI x1, fI x2, fI x3, fI x4, fI x5, fI x6] = w := Option.some.inj (show some [fR x0, fI x1, fI x2, fI x3, fI x4, fI x5, fI x6] = some w from e6)
    exact (fF_b (r := 1255) (by decide) rfl).mp e7
  have f1 : fB K n p 19 [fI x3, fI x5, fI x7] σ := by
    obtain ⟨w, e6, e7⟩ := m4 (307, [3, 5, 7]) (List.mem_of_getElem? (i := 1) rfl)
    obtain rfl : [fI x3, fI x5, fI x7] = w := Option.some.inj (show some [fI x3, fI x5, fI x7] = some w from e6)
    exact (fF_b (r := 307) (by decide) rfl).mp e7
  clear m1 m2 m3 m4
  obtain ⟨a9_0, lo9_0, hi9_0, r9_0, S0, C0, e9_0, T0, V0⟩ := (fL_o (by decide) (by decide)).mp f0
  cases e9_0
  obtain ⟨y0_0, y0_1, y0_2, y0_3, e8_0, eS0, eC0, m0, z0, o0⟩ := T0
  cases e8_0
  subst eS0
  subst eC0
  obtain ⟨y1_0, y1_1, y1_2, e9_1, h1⟩ := f1
  cases e9_1
  have q0 : fB K n (p) 77 [fR x0, fI x1, fI x2, fI x3, fI x4, fI x8] σ := by
    refine (fL_o (by decide) (by decide)).mpr ⟨x0, x1, x2, _, _, _, rfl, ⟨x3, x4, x8, rfl, rfl, rfl, by omega⟩, ?_⟩
    exact fCv_w V0 ((show _ = x1.toInt from rfl).trans (show x1.toInt = _ from rfl)) (by have e1 : fEc 78 = 0 := rfl; have e2 : fEc 77 = 0 := rfl; omega) (fun x h => h) (by
      rintro y ⟨j, q, hs, hp, hy⟩
      refine ⟨j, q, hs, ?_, hy⟩
      by_cases hh : j = x5.toInt
      · have h9 := hs.2.2.2.2.2.1
        rw [hh, ← h1] at h9
        omega
      · omega)
  exact ⟨p, fun _ => rfl, ⟨(fun q h => by cases h), fun q h => (by cases h), (fun f h => by cases h), (aAllc ⟨_, rfl, (fF_b (r := 1238) (by decide) rfl).mpr q0⟩ (fun f h => by cases h))⟩, [], List.mem_cons_self, fun f h => (by cases h)⟩
set_option maxRecDepth 8192 in
theorem rw_ruGSfSE {K : Nat → Nat} {n : Nat} : aGho (fF K n) fa_T K n (fJX K n) ag_ruGSfSE := by
  refine aGho_of ⟨rfl, rfl⟩ ?_
  intro p σ ρ hH hX hA hM
  have hG := aAG_of hA.1 (fun i e v he hv => (hA.2 i e v he hv).1)
  clear hA
  obtain ⟨v0, v1, v2, v3, v4, v5, rfl, g0, g1, g2, g3, g4, g5⟩ := fA_6 hG
  clear hG
  obtain ⟨x0, rfl, b0, d0⟩ := fG_ref (by decide) g0
  obtain ⟨x1, rfl, b1, d1⟩ := aG_int g1
  dsimp only at b1 d1
  obtain ⟨x2, rfl, b2, d2⟩ := aG_int g2
  dsimp only at b2 d2
  obtain ⟨x3, rfl, b3, d3⟩ := aG_int g3
  dsimp only at b3 d3
  obtain ⟨x4, rfl, b4, d4⟩ := aG_int g4
  dsimp only at b4 d4
  obtain ⟨x5, rfl, b5, d5⟩ := aG_int g5
  dsimp only at b5 d5
  obtain ⟨m1, m2, m3, m4⟩ := hM
  have f0 : fB K n p 77 [fR x0, fI x1, fI x2, fI x3, fI x4, fI x5] σ := by
    obtain ⟨w, e6, e7⟩ := m4 (1238, [0, 1, 2, 3, 4, 5]) (List.mem_of_getElem? (i := 0) rfl)
    obtain rfl : [fR x0, fI x1, fI x2, fI x3, fI x4, fI x5] = w := Option.some.inj (show some [fR x0, fI x1, fI x2, fI x3, fI x4, fI x5] = some w from e6)
    exact (fF_b (r := 1238) (by decide) rfl).mp e7
  have f1 : fB K n p 25 [fI x3, fI x4] σ := by
    obtain ⟨w, e6, e7⟩ := m4 (402, [3, 4]) (List.mem_of_getElem? (i := 1) rfl)
    obtain rfl : [fI x3, fI x4] = w := Option.some.inj (show some [fI x3, fI x4] = some w from e6)
    exact (fF_b (r := 402) (by decide) rfl).mp e7
  clear m1 m2 m3 m4
  obtain ⟨a9_0, lo9_0, hi9_0, r9_0, S0, C0, e9_0, T0, V0⟩ := (fL_o (by decide) (by decide)).mp f0
  cases e9_0
  obtain ⟨y0_0, y0_1, y0_2, e8_0, eS0, eC0, z0⟩ := T0
  cases e8_0
  subst eS0
  subst eC0
  obtain ⟨y1_0, y1_1, e9_1, h1⟩ := f1
  cases e9_1
  have hmk : ((fq p).1 x3.toInt.toNat).toInt % 8 = x4.toInt := by
    unfold fOw at h1
    rw [fNc] at h1
    rw [h1, show ((x4.toNatClampNeg : Nat) : Int) = x4.toInt by rw [fNc]; omega]
    omega
  have q0 : fB K n (p) 81 [fR x0, fI x1, fI x2, fI x3] σ := by
    refine (fL_o (by decide) (by decide)).mpr ⟨x0, x1, x2, _, _, _, rfl, (Or.inl ⟨x3, rfl, rfl, rfl⟩), ?_⟩
    exact fCv_w V0 ((show _ = x1.toInt from rfl).trans (show x1.toInt = _ from rfl)) (by have e1 : fEc 77 = 0 := rfl; have e2 : fEc 81 = 0 := rfl; omega) (fun x h => Or.inr (Or.inr (Or.inr ⟨by omega, by omega, by rw [hmk]; exact h⟩))) (by
      intro y hy
      unfold fGn at hy
      rw [hmk] at hy
      rcases hy with hy | hy | hy | ⟨-, -, j, q, hs, hp, hy⟩
      · omega
      · omega
      · omega
      · have := hs.2.1
        have := hs.2.2.2.1
        exact ⟨j, q, hs, by omega, hy⟩)
  exact ⟨p, fun _ => rfl, ⟨(fun q h => by cases h), fun q h => (by cases h), (fun f h => by cases h), (aAllc ⟨_, rfl, (fF_b (r := 1300) (by decide) rfl).mpr q0⟩ (fun f h => by cases h))⟩, [], List.mem_cons_self, fun f h => (by cases h)⟩
set_option maxRecDepth 8192 in
theorem rw_ruGSgSE {K : Nat → Nat} {n : Nat} : aGho (fF K n) fa_T K n (fJX K n) ag_ruGSgSE := by
  refine aGho_of ⟨rfl, rfl⟩ ?_
  intro p σ ρ hH hX hA hM
  have hG := aAG_of hA.1 (fun i e v he hv => (hA.2 i e v he hv).1)
  clear hA
  obtain ⟨v0, v1, v2, v3, v4, v5, rfl, g0, g1, g2, g3, g4, g5⟩ := fA_6 hG
  clear hG
  obtain ⟨x0, rfl, b0, d0⟩ := fG_ref (by decide) g0
  obtain ⟨x1, rfl, b1, d1⟩ := aG_int g1
  dsimp only at b1 d1
  obtain ⟨x2, rfl, b2, d2⟩ := aG_int g2
  dsimp only at b2 d2
  obtain ⟨x3, rfl, b3, d3⟩ := aG_int g3
  dsimp only at b3 d3
  obtain ⟨x4, rfl, b4, d4⟩ := aG_int g4
  dsimp only at b4 d4
  obtain ⟨x5, rfl, b5, d5⟩ := aG_int g5
  dsimp only at b5 d5
  obtain ⟨m1, m2, m3, m4⟩ := hM
  have f0 : fB K n p 77 [fR x0, fI x1, fI x2, fI x3, fI x4, fI x5] σ := by
    obtain ⟨w, e6, e7⟩ := m4 (1238, [0, 1, 2, 3, 4, 5]) (List.mem_of_getElem? (i := 0) rfl)
    obtain rfl : [fR x0, fI x1, fI x2, fI x3, fI x4, fI x5] = w := Option.some.inj (show some [fR x0, fI x1, fI x2, fI x3, fI x4, fI x5] = some w from e6)
    exact (fF_b (r := 1238) (by decide) rfl).mp e7
  have f1 : fB K n p 25 [fI x3, fI x4] σ := by
    obtain ⟨w, e6, e7⟩ := m4 (402, [3, 4]) (List.mem_of_getElem? (i := 1) rfl)
    obtain rfl : [fI x3, fI x4] = w := Option.some.inj (show some [fI x3, fI x4] = some w from e6)
    exact (fF_b (r := 402) (by decide) rfl).mp e7
  clear m1 m2 m3 m4
  obtain ⟨a9_0, lo9_0, hi9_0, r9_0, S0, C0, e9_0, T0, V0⟩ := (fL_o (by decide) (by decide)).mp f0
  cases e9_0
  obtain ⟨y0_0, y0_1, y0_2, e8_0, eS0, eC0, z0⟩ := T0
  cases e8_0
  subst eS0
  subst eC0
  obtain ⟨y1_0, y1_1, e9_1, h1⟩ := f1
  cases e9_1
  have hmk : ((fq p).1 x3.toInt.toNat).toInt % 8 = x4.toInt := by
    unfold fOw at h1
    rw [fNc] at h1
    rw [h1, show ((x4.toNatClampNeg : Nat) : Int) = x4.toInt by rw [fNc]; omega]
    omega
  have q0 : fB K n (p) 81 [fR x0, fI x1, fI x2, fI x3] σ := by
    refine (fL_o (by decide) (by decide)).mpr ⟨x0, x1, x2, _, _, _, rfl, (Or.inl ⟨x3, rfl, rfl, rfl⟩), ?_⟩
    exact fCv_w V0 ((show _ = x1.toInt from rfl).trans (show x1.toInt = _ from rfl)) (by have e1 : fEc 77 = 0 := rfl; have e2 : fEc 81 = 0 := rfl; omega) (fun x h => Or.inr (Or.inr (Or.inr ⟨by omega, by omega, by rw [hmk]; exact h⟩))) (by
      intro y hy
      unfold fGn at hy
      rw [hmk] at hy
      rcases hy with hy | hy | hy | ⟨-, -, j, q, hs, hp, hy⟩
      · omega
      · omega
      · omega
      · have := hs.2.1
        have := hs.2.2.2.1
        exact ⟨j, q, hs, by omega, hy⟩)
  exact ⟨p, fun _ => rfl, ⟨(fun q h => by cases h), fun q h => (by cases h), (fun f h => by cases h), (aAllc ⟨_, rfl, (fF_b (r := 1300) (by decide) rfl).mpr q0⟩ (fun f h => by cases h))⟩, [], List.mem_cons_self, fun f h => (by cases h)⟩
set_option maxRecDepth 8192 in
theorem rw_ruGHaSE {K : Nat → Nat} {n : Nat} : aGho (fF K n) fa_T K n (fJX K n) ag_ruGHaSE := by
  refine aGho_of ⟨rfl, rfl⟩ ?_
  intro p σ ρ hH hX hA hM
  have hG := aAG_of hA.1 (fun i e v he hv => (hA.2 i e v he hv).1)
  clear hA
  obtain ⟨v0, v1, v2, v3, rfl, g0, g1, g2, g3⟩ := fA_4 hG
  clear hG
  obtain ⟨x0, rfl, b0, d0⟩ := fG_ref (by decide) g0
  obtain ⟨x1, rfl, b1, d1⟩ := aG_int g1
  dsimp only at b1 d1
  obtain ⟨x2, rfl, b2, d2⟩ := aG_int g2
  dsimp only at b2 d2
  obtain ⟨x3, rfl, b3, d3⟩ := aG_int g3
  dsimp only at b3 d3
  obtain ⟨m1, m2, m3, m4⟩ := hM
  have l0 : 0 ≤ (1 * x3.toInt + (-8 * x2.toInt + 0)) + 0 := by
    obtain ⟨z, e6, e7⟩ := m3 ([(3, 1), (2, -8)], 0) (List.mem_of_getElem? (i := 0) rfl)
    obtain rfl : (1 * x3.toInt + (-8 * x2.toInt + 0)) = z := Option.some.inj (show some (1 * x3.toInt + (-8 * x2.toInt + 0)) = some z from e6)
    exact e7
  have l1 : 0 ≤ (-1 * x3.toInt + (8 * x2.toInt + 0)) + 0 := by
    obtain ⟨z, e6, e7⟩ := m3 ([(3, -1), (2, 8)], 0) (List.mem_of_getElem? (i := 1) rfl)
    obtain rfl : (-1 * x3.toInt + (8 * x2.toInt + 0)) = z := Option.some.inj (show some (-1 * x3.toInt + (8 * x2.toInt + 0)) = some z from e6)
    exact e7
  clear m1 m2 m3 m4
  have q0 : fB K n (p) 83 [fR x0, fI x1, fI x1, fI x2, fI x3] σ := by
    obtain ⟨g, hg9⟩ := fRow hH b0 d0 rfl (by decide)
    refine (fL_o (by decide) (by decide)).mpr ⟨x0, x1, x1, _, _, _, rfl, ⟨x2, x3, rfl, rfl, rfl⟩, ?_⟩
    exact fCv_0 b0 (by unfold fRw; omega) hg9 (by have e1 : fEc 83 = 0 := rfl; show x1.toInt + fEc 83 ≤ x1.toInt; omega) (by
      rintro x ⟨j, -, -, -, hp, -⟩
      omega)
  exact ⟨p, fun _ => rfl, ⟨(fun q h => by cases h), fun q h => (by cases h), (fun f h => by cases h), (aAllc ⟨_, rfl, (fF_b (r := 1333) (by decide) rfl).mpr q0⟩ (fun f h => by cases h))⟩, [], List.mem_cons_self, fun f h => (by cases h)⟩
set_option maxRecDepth 8192 in
theorem rw_ruGHsSE {K : Nat → Nat} {n : Nat} : aGho (fF K n) fa_T K n (fJX K n) ag_ruGHsSE := by
  refine aGho_of ⟨rfl, rfl⟩ ?_
  intro p σ ρ hH hX hA hM
  have hG := aAG_of hA.1 (fun i e v he hv => (hA.2 i e v he hv).1)
  clear hA
  obtain ⟨v0, v1, v2, v3, v4, v5, v6, rfl, g0, g1, g2, g3, g4, g5, g6⟩ := fA_7 hG
  clear hG
  obtain ⟨x0, rfl, b0, d0⟩ := fG_ref (by decide) g0
  obtain ⟨x1, rfl, b1, d1⟩ := aG_int g1
  dsimp only at b1 d1
  obtain ⟨x2, rfl, b2, d2⟩ := aG_int g2
  dsimp only at b2 d2
  obtain ⟨x3, rfl, b3, d3⟩ := aG_int g3
  dsimp only at b3 d3
  obtain ⟨x4, rfl, b4, d4⟩ := aG_int g4
  dsimp only at b4 d4
  obtain ⟨x5, rfl, b5, d5⟩ := aG_int g5
  dsimp only at b5 d5
  obtain ⟨x6, rfl, b6, d6⟩ := aG_int g6
  dsimp only at b6 d6
  obtain ⟨m1, m2, m3, m4⟩ := hM
  have l0 : 0 ≤ (1 * x2.toInt + (-512 * x4.toInt + (-8 * x5.toInt + 0))) + 0 := by
    obtain ⟨z, e6, e7⟩ := m3 ([(2, 1), (4, -512), (5, -8)], 0) (List.mem_of_getElem? (i := 0) rfl)
    obtain rfl : (1 * x2.toInt + (-512 * x4.toInt + (-8 * x5.toInt + 0))) = z := Option.some.inj (show some (1 * x2.toInt + (-512 * x4.toInt + (-8 * x5.toInt + 0))) = some z from e6)
    exact e7
  have l1 : 0 ≤ (-1 * x2.toInt + (512 * x4.toInt + (8 * x5.toInt + 0))) + 0 := by
    obtain ⟨z, e6, e7⟩ := m3 ([(2, -1), (4, 512), (5, 8)], 0) (List.mem_of_getElem? (i := 1) rfl)
    obtain rfl : (-1 * x2.toInt + (512 * x4.toInt + (8 * x5.toInt + 0))) = z := Option.some.inj (show some (-1 * x2.toInt + (512 * x4.toInt + (8 * x5.toInt + 0))) = some z from e6)
    exact e7
  have l2 : 0 ≤ (1 * x1.toInt + (-1 * x3.toInt + 0)) + 0 := by
    obtain ⟨z, e6, e7⟩ := m3 ([(1, 1), (3, -1)], 0) (List.mem_of_getElem? (i := 2) rfl)
    obtain rfl : (1 * x1.toInt + (-1 * x3.toInt + 0)) = z := Option.some.inj (show some (1 * x1.toInt + (-1 * x3.toInt + 0)) = some z from e6)
    exact e7
  have f0 : fB K n p 83 [fR x0, fI x3, fI x1, fI x4, fI x6] σ := by
    obtain ⟨w, e6, e7⟩ := m4 (1333, [0, 3, 1, 4, 6]) (List.mem_of_getElem? (i := 0) rfl)
    obtain rfl : [fR x0, fI x3, fI x1, fI x4, fI x6] = w := Option.some.inj (show some [fR x0, fI x3, fI x1, fI x4, fI x6] = some w from e6)
    exact (fF_b (r := 1333) (by decide) rfl).mp e7
  have f1 : fB K n p 204 [fI x4, fI x6, fI x5] σ := by
    obtain ⟨w, e6, e7⟩ := m4 (3267, [4, 6, 5]) (List.mem_of_getElem? (i := 1) rfl)
    obtain rfl : [fI x4, fI x6, fI x5] = w := Option.some.inj (show some [fI x4, fI x6, fI x5] = some w from e6)
    exact (fF_b (r := 3267) (by decide) rfl).mp e7
  have f2 : fB K n p 48 [fI x5] σ := by
    obtain ⟨w, e6, e7⟩ := m4 (769, [5]) (List.mem_of_getElem? (i := 2) rfl)
    obtain rfl : [fI x5] = w := Option.some.inj (show some [fI x5] = some w from e6)
    exact (fF_b (r := 769) (by decide) rfl).mp e7
  clear m1 m2 m3 m4
  obtain ⟨a9_0, lo9_0, hi9_0, r9_0, S0, C0, e9_0, T0, V0⟩ := (fL_o (by decide) (by decide)).mp f0
  cases e9_0
  obtain ⟨y0_0, y0_1, e8_0, eS0, eC0⟩ := T0
  cases e8_0
  subst eS0
  subst eC0
  obtain ⟨y1_0, y1_1, y1_2, e8_1, h1, i1, q1⟩ := (fP_o (by decide)).mp f1
  cases e8_1
  obtain ⟨y2_0, e8_2, h2⟩ := (fE_o (by decide)).mp f2
  cases e8_2
  have q0 : fB K n (p) 84 [fR x0, fI x3, fI x1, fI x4, fI x6] (jup σ x0 (jsto (σ x0) x1.toNatClampNeg x2)) := by
    refine (fL_o (by decide) (by decide)).mpr ⟨x0, x3, x1, _, _, _, rfl, (Or.inl ⟨x4, x6, rfl, rfl, rfl⟩), ?_⟩
    exact fCv_st V0 (by rw [fNc]; have e1 : fEc 83 = 0 := rfl; omega) (by have e1 : fEc 83 = 0 := rfl; show x3.toInt ≤ _; omega) (by have e1 : fEc 83 = 0 := rfl; have e2 : fEc 84 = 1 := rfl; omega) (⟨(x6.toInt - 8 * x4.toInt).toNat, by omega, by rw [← q1]; omega, by rw [← q1]; exact h2, trivial, by rw [← q1]; omega⟩) (by
      rintro y ⟨j, j1, j2, j3, hp, hy⟩
      by_cases hh : j = (x6.toInt - 8 * x4.toInt).toNat
      · exact Or.inr (fI32 (by rw [hy, hh, ← q1]; omega))
      · exact Or.inl ⟨j, j1, j2, j3, by omega, hy⟩)
  exact ⟨p, fun _ => rfl, ⟨(fun q h => by cases h), fun q h => (by cases h), (fun f h => by cases h), (aAllc ⟨_, rfl, fF_p (r := 1349) (by decide) (by decide) rfl q0⟩ (fun f h => by cases h))⟩, [], List.mem_cons_self, fun f h => (by cases h)⟩
set_option maxRecDepth 8192 in
theorem rw_ruGHnSE {K : Nat → Nat} {n : Nat} : aGho (fF K n) fa_T K n (fJX K n) ag_ruGHnSE := by
  refine aGho_of ⟨rfl, rfl⟩ ?_
  intro p σ ρ hH hX hA hM
  have hG := aAG_of hA.1 (fun i e v he hv => (hA.2 i e v he hv).1)
  clear hA
  obtain ⟨v0, v1, v2, v3, v4, v5, rfl, g0, g1, g2, g3, g4, g5⟩ := fA_6 hG
  clear hG
  obtain ⟨x0, rfl, b0, d0⟩ := fG_ref (by decide) g0
  obtain ⟨x1, rfl, b1, d1⟩ := aG_int g1
  dsimp only at b1 d1
  obtain ⟨x2, rfl, b2, d2⟩ := aG_int g2
  dsimp only at b2 d2
  obtain ⟨x3, rfl, b3, d3⟩ := aG_int g3
  dsimp only at b3 d3
  obtain ⟨x4, rfl, b4, d4⟩ := aG_int g4
  dsimp only at b4 d4
  obtain ⟨x5, rfl, b5, d5⟩ := aG_int g5
  dsimp only at b5 d5
  obtain ⟨m1, m2, m3, m4⟩ := hM
  have l0 : 0 ≤ (1 * x5.toInt + (-1 * x2.toInt + 0)) + -1 := by
    obtain ⟨z, e6, e7⟩ := m3 ([(5, 1), (2, -1)], -1) (List.mem_of_getElem? (i := 0) rfl)
    obtain rfl : (1 * x5.toInt + (-1 * x2.toInt + 0)) = z := Option.some.inj (show some (1 * x5.toInt + (-1 * x2.toInt + 0)) = some z from e6)
    exact e7
  have l1 : 0 ≤ (-1 * x5.toInt + (1 * x2.toInt + 0)) + 1 := by
    obtain ⟨z, e6, e7⟩ := m3 ([(5, -1), (2, 1)], 1) (List.mem_of_getElem? (i := 1) rfl)
    obtain rfl : (-1 * x5.toInt + (1 * x2.toInt + 0)) = z := Option.some.inj (show some (-1 * x5.toInt + (1 * x2.toInt + 0)) = some z from e6)
    exact e7
  have f0 : fB K n p 84 [fR x0, fI x1, fI x2, fI x3, fI x4] σ := by
    obtain ⟨w, e6, e7⟩ := m4 (1349, [0, 1, 2, 3, 4]) (List.mem_of_getElem? (i := 0) rfl)
    obtain rfl : [fR x0, fI x1, fI x2, fI x3, fI x4] = w := Option.some.inj (show some [fR x0, fI x1, fI x2, fI x3, fI x4] = some w from e6)
    exact (fF_b (r := 1349) (by decide) rfl).mp e7
  clear m1 m2 m3 m4
  obtain ⟨a9_0, lo9_0, hi9_0, r9_0, S0, C0, e9_0, T0, V0⟩ := (fL_o (by decide) (by decide)).mp f0
  cases e9_0
  obtain ⟨y0_0, y0_1, e8_0, eS0, eC0⟩ := (fOr_l T0 (by rintro ⟨_, _, _, e9, -⟩; cases e9))
  cases e8_0
  subst eS0
  subst eC0
  have q0 : fB K n (p) 85 [fR x0, fI x1, fI x5, fI x3, fI x4] σ := by
    refine (fL_o (by decide) (by decide)).mpr ⟨x0, x1, x5, _, _, _, rfl, ⟨x3, x4, rfl, rfl, rfl⟩, ?_⟩
    exact fCv_w V0 ((show _ = x1.toInt from rfl).trans (show x1.toInt = _ from rfl)) (by have e1 : fEc 84 = 1 := rfl; have e2 : fEc 85 = 0 := rfl; omega) (fun x h => h) (by
      exact fun x h => h)
  exact ⟨p, fun _ => rfl, ⟨(fun q h => by cases h), fun q h => (by cases h), (fun f h => by cases h), (aAllc ⟨_, rfl, (fF_b (r := 1365) (by decide) rfl).mpr q0⟩ (fun f h => by cases h))⟩, [], List.mem_cons_self, fun f h => (by cases h)⟩
set_option maxRecDepth 8192 in
theorem rw_ruGHoSE {K : Nat → Nat} {n : Nat} : aGho (fF K n) fa_T K n (fJX K n) ag_ruGHoSE := by
  refine aGho_of ⟨rfl, rfl⟩ ?_
  intro p σ ρ hH hX hA hM
  have hG := aAG_of hA.1 (fun i e v he hv => (hA.2 i e v he hv).1)
  clear hA
  obtain ⟨v0, v1, v2, v3, v4, v5, rfl, g0, g1, g2, g3, g4, g5⟩ := fA_6 hG
  clear hG
  obtain ⟨x0, rfl, b0, d0⟩ := fG_ref (by decide) g0
  obtain ⟨x1, rfl, b1, d1⟩ := aG_int g1
  dsimp only at b1 d1
  obtain ⟨x2, rfl, b2, d2⟩ := aG_int g2
  dsimp only at b2 d2
  obtain ⟨x3, rfl, b3, d3⟩ := aG_int g3
  dsimp only at b3 d3
  obtain ⟨x4, rfl, b4, d4⟩ := aG_int g4
  dsimp only at b4 d4
  obtain ⟨x5, rfl, b5, d5⟩ := aG_int g5
  dsimp only at b5 d5
  obtain ⟨m1, m2, m3, m4⟩ := hM
  have f0 : fB K n p 83 [fR x0, fI x1, fI x2, fI x3, fI x4] σ := by
    obtain ⟨w, e6, e7⟩ := m4 (1333, [0, 1, 2, 3, 4]) (List.mem_of_getElem? (i := 0) rfl)
    obtain rfl : [fR x0, fI x1, fI x2, fI x3, fI x4] = w := Option.some.inj (show some [fR x0, fI x1, fI x2, fI x3, fI x4] = some w from e6)
    exact (fF_b (r := 1333) (by decide) rfl).mp e7
  have f1 : fB K n p 204 [fI x3, fI x4, fI x5] σ := by
    obtain ⟨w, e6, e7⟩ := m4 (3267, [3, 4, 5]) (List.mem_of_getElem? (i := 1) rfl)
    obtain rfl : [fI x3, fI x4, fI x5] = w := Option.some.inj (show some [fI x3, fI x4, fI x5] = some w from e6)
    exact (fF_b (r := 3267) (by decide) rfl).mp e7
  have f2 : fB K n p 49 [fI x5] σ := by
    obtain ⟨w, e6, e7⟩ := m4 (785, [5]) (List.mem_of_getElem? (i := 2) rfl)
    obtain rfl : [fI x5] = w := Option.some.inj (show some [fI x5] = some w from e6)
    exact (fF_b (r := 785) (by decide) rfl).mp e7
  clear m1 m2 m3 m4
  obtain ⟨a9_0, lo9_0, hi9_0, r9_0, S0, C0, e9_0, T0, V0⟩ := (fL_o (by decide) (by decide)).mp f0
  cases e9_0
  obtain ⟨y0_0, y0_1, e8_0, eS0, eC0⟩ := T0
  cases e8_0
  subst eS0
  subst eC0
  obtain ⟨y1_0, y1_1, y1_2, e8_1, h1, i1, q1⟩ := (fP_o (by decide)).mp f1
  cases e8_1
  obtain ⟨y2_0, e8_2, h2⟩ := (fE_o (by decide)).mp f2
  cases e8_2
  have q0 : fB K n (p) 85 [fR x0, fI x1, fI x2, fI x3, fI x4] σ := by
    refine (fL_o (by decide) (by decide)).mpr ⟨x0, x1, x2, _, _, _, rfl, ⟨x3, x4, rfl, rfl, rfl⟩, ?_⟩
    exact fCv_w V0 ((show _ = x1.toInt from rfl).trans (show x1.toInt = _ from rfl)) (by have e1 : fEc 83 = 0 := rfl; have e2 : fEc 85 = 0 := rfl; omega) (fun x h => h) (by
      rintro y ⟨j, j1, j2, j3, hp, hy⟩
      by_cases hh : j = (x4.toInt - 8 * x3.toInt).toNat
      · exfalso
        rw [hh, ← q1] at j3
        exact j3.elim h2.1 (fun h => h h2.2)
      · exact ⟨j, j1, j2, j3, by omega, hy⟩)
  exact ⟨p, fun _ => rfl, ⟨(fun q h => by cases h), fun q h => (by cases h), (fun f h => by cases h), (aAllc ⟨_, rfl, (fF_b (r := 1365) (by decide) rfl).mpr q0⟩ (fun f h => by cases h))⟩, [], List.mem_cons_self, fun f h => (by cases h)⟩
set_option maxRecDepth 8192 in
theorem rw_ruGHqSE {K : Nat → Nat} {n : Nat} : aGho (fF K n) fa_T K n (fJX K n) ag_ruGHqSE := by
  refine aGho_of ⟨rfl, rfl⟩ ?_
  intro p σ ρ hH hX hA hM
  have hG := aAG_of hA.1 (fun i e v he hv => (hA.2 i e v he hv).1)
  clear hA
  obtain ⟨v0, v1, v2, v3, v4, v5, rfl, g0, g1, g2, g3, g4, g5⟩ := fA_6 hG
  clear hG
  obtain ⟨x0, rfl, b0, d0⟩ := fG_ref (by decide) g0
  obtain ⟨x1, rfl, b1, d1⟩ := aG_int g1
  dsimp only at b1 d1
  obtain ⟨x2, rfl, b2, d2⟩ := aG_int g2
  dsimp only at b2 d2
  obtain ⟨x3, rfl, b3, d3⟩ := aG_int g3
  dsimp only at b3 d3
  obtain ⟨x4, rfl, b4, d4⟩ := aG_int g4
  dsimp only at b4 d4
  obtain ⟨x5, rfl, b5, d5⟩ := aG_int g5
  dsimp only at b5 d5
  obtain ⟨m1, m2, m3, m4⟩ := hM
  have l0 : 0 ≤ (1 * x5.toInt + (-1 * x4.toInt + 0)) + -1 := by
    obtain ⟨z, e6, e7⟩ := m3 ([(5, 1), (4, -1)], -1) (List.mem_of_getElem? (i := 0) rfl)
    obtain rfl : (1 * x5.toInt + (-1 * x4.toInt + 0)) = z := Option.some.inj (show some (1 * x5.toInt + (-1 * x4.toInt + 0)) = some z from e6)
    exact e7
  have l1 : 0 ≤ (-1 * x5.toInt + (1 * x4.toInt + 0)) + 1 := by
    obtain ⟨z, e6, e7⟩ := m3 ([(5, -1), (4, 1)], 1) (List.mem_of_getElem? (i := 1) rfl)
    obtain rfl : (-1 * x5.toInt + (1 * x4.toInt + 0)) = z := Option.some.inj (show some (-1 * x5.toInt + (1 * x4.toInt + 0)) = some z from e6)
    exact e7
  have f0 : fB K n p 85 [fR x0, fI x1, fI x2, fI x3, fI x4] σ := by
    obtain ⟨w, e6, e7⟩ := m4 (1365, [0, 1, 2, 3, 4]) (List.mem_of_getElem? (i := 0) rfl)
    obtain rfl : [fR x0, fI x1, fI x2, fI x3, fI x4] = w := Option.some.inj (show some [fR x0, fI x1, fI x2, fI x3, fI x4] = some w from e6)
    exact (fF_b (r := 1365) (by decide) rfl).mp e7
  clear m1 m2 m3 m4
  obtain ⟨a9_0, lo9_0, hi9_0, r9_0, S0, C0, e9_0, T0, V0⟩ := (fL_o (by decide) (by decide)).mp f0
  cases e9_0
  obtain ⟨y0_0, y0_1, e8_0, eS0, eC0⟩ := T0
  cases e8_0
  subst eS0
  subst eC0
  have q0 : fB K n (p) 83 [fR x0, fI x1, fI x2, fI x3, fI x5] σ := by
    refine (fL_o (by decide) (by decide)).mpr ⟨x0, x1, x2, _, _, _, rfl, ⟨x3, x5, rfl, rfl, rfl⟩, ?_⟩
    exact fCv_w V0 ((show _ = x1.toInt from rfl).trans (show x1.toInt = _ from rfl)) (by have e1 : fEc 85 = 0 := rfl; have e2 : fEc 83 = 0 := rfl; omega) (fun x h => h) (by
      rintro y ⟨j, j1, j2, j3, hp, hy⟩
      exact ⟨j, j1, j2, j3, by omega, hy⟩)
  exact ⟨p, fun _ => rfl, ⟨(fun q h => by cases h), fun q h => (by cases h), (fun f h => by cases h), (aAllc ⟨_, rfl, (fF_b (r := 1333) (by decide) rfl).mpr q0⟩ (fun f h => by cases h))⟩, [], List.mem_cons_self, fun f h => (by cases h)⟩
set_option maxRecDepth 8192 in
theorem rw_ruGHdSE {K : Nat → Nat} {n : Nat} : aGho (fF K n) fa_T K n (fJX K n) ag_ruGHdSE := by
  refine aGho_of ⟨rfl, rfl⟩ ?_
  intro p σ ρ hH hX hA hM
  have hG := aAG_of hA.1 (fun i e v he hv => (hA.2 i e v he hv).1)
  clear hA
  obtain ⟨v0, v1, v2, v3, v4, rfl, g0, g1, g2, g3, g4⟩ := fA_5 hG
  clear hG
  obtain ⟨x0, rfl, b0, d0⟩ := fG_ref (by decide) g0
  obtain ⟨x1, rfl, b1, d1⟩ := aG_int g1
  dsimp only at b1 d1
  obtain ⟨x2, rfl, b2, d2⟩ := aG_int g2
  dsimp only at b2 d2
  obtain ⟨x3, rfl, b3, d3⟩ := aG_int g3
  dsimp only at b3 d3
  obtain ⟨x4, rfl, b4, d4⟩ := aG_int g4
  dsimp only at b4 d4
  obtain ⟨m1, m2, m3, m4⟩ := hM
  have l0 : 0 ≤ (1 * x4.toInt + (-8 * x3.toInt + 0)) + -8 := by
    obtain ⟨z, e6, e7⟩ := m3 ([(4, 1), (3, -8)], -8) (List.mem_of_getElem? (i := 0) rfl)
    obtain rfl : (1 * x4.toInt + (-8 * x3.toInt + 0)) = z := Option.some.inj (show some (1 * x4.toInt + (-8 * x3.toInt + 0)) = some z from e6)
    exact e7
  have f0 : fB K n p 83 [fR x0, fI x1, fI x2, fI x3, fI x4] σ := by
    obtain ⟨w, e6, e7⟩ := m4 (1333, [0, 1, 2, 3, 4]) (List.mem_of_getElem? (i := 0) rfl)
    obtain rfl : [fR x0, fI x1, fI x2, fI x3, fI x4] = w := Option.some.inj (show some [fR x0, fI x1, fI x2, fI x3, fI x4] = some w from e6)
    exact (fF_b (r := 1333) (by decide) rfl).mp e7
  have f1 : fB K n p 35 [fI x3] σ := by
    obtain ⟨w, e6, e7⟩ := m4 (561, [3]) (List.mem_of_getElem? (i := 1) rfl)
    obtain rfl : [fI x3] = w := Option.some.inj (show some [fI x3] = some w from e6)
    exact (fF_b (r := 561) (by decide) rfl).mp e7
  clear m1 m2 m3 m4
  obtain ⟨a9_0, lo9_0, hi9_0, r9_0, S0, C0, e9_0, T0, V0⟩ := (fL_o (by decide) (by decide)).mp f0
  cases e9_0
  obtain ⟨y0_0, y0_1, e8_0, eS0, eC0⟩ := T0
  cases e8_0
  subst eS0
  subst eC0
  obtain ⟨y1_0, e9_1, h1⟩ := f1
  cases e9_1
  have hmk : ((fq p).1 x3.toInt.toNat).toInt % 8 = 2 := by
    unfold fOw at h1
    rw [fNc] at h1
    rw [h1]
    omega
  have q0 : fB K n (p) 81 [fR x0, fI x1, fI x2, fI x3] σ := by
    refine (fL_o (by decide) (by decide)).mpr ⟨x0, x1, x2, _, _, _, rfl, (Or.inl ⟨x3, rfl, rfl, rfl⟩), ?_⟩
    exact fCv_w V0 ((show _ = x1.toInt from rfl).trans (show x1.toInt = _ from rfl)) (by have e1 : fEc 83 = 0 := rfl; have e2 : fEc 81 = 0 := rfl; omega) (fun x h => Or.inr (Or.inl ⟨hmk, h⟩)) (by
      intro y hy
      unfold fGn at hy
      rw [hmk] at hy
      rcases hy with hy | ⟨-, j, j1, j2, j3, hp, hy⟩ | hy | hy
      · omega
      · exact ⟨j, j1, j2, j3, by omega, hy⟩
      · omega
      · omega)
  exact ⟨p, fun _ => rfl, ⟨(fun q h => by cases h), fun q h => (by cases h), (fun f h => by cases h), (aAllc ⟨_, rfl, (fF_b (r := 1300) (by decide) rfl).mpr q0⟩ (fun f h => by cases h))⟩, [], List.mem_cons_self, fun f h => (by cases h)⟩
set_option maxRecDepth 8192 in
theorem rw_ruGHeSE {K : Nat → Nat} {n : Nat} : aGho (fF K n) fa_T K n (fJX K n) ag_ruGHeSE := by
  refine aGho_of ⟨rfl, rfl⟩ ?_
  intro p σ ρ hH hX hA hM
  have hG := aAG_of hA.1 (fun i e v he hv => (hA.2 i e v he hv).1)
  clear hA
  obtain ⟨v0, v1, v2, v3, v4, v5, rfl, g0, g1, g2, g3, g4, g5⟩ := fA_6 hG
  clear hG
  obtain ⟨x0, rfl, b0, d0⟩ := fG_ref (by decide) g0
  obtain ⟨x1, rfl, b1, d1⟩ := aG_int g1
  dsimp only at b1 d1
  obtain ⟨x2, rfl, b2, d2⟩ := aG_int g2
  dsimp only at b2 d2
  obtain ⟨x3, rfl, b3, d3⟩ := aG_int g3
  dsimp only at b3 d3
  obtain ⟨x4, rfl, b4, d4⟩ := aG_int g4
  dsimp only at b4 d4
  obtain ⟨x5, rfl, b5, d5⟩ := aG_int g5
  dsimp only at b5 d5
  obtain ⟨m1, m2, m3, m4⟩ := hM
  have f0 : fB K n p 83 [fR x0, fI x1, fI x2, fI x3, fI x4] σ := by
    obtain ⟨w, e6, e7⟩ := m4 (1333, [0, 1, 2, 3, 4]) (List.mem_of_getElem? (i := 0) rfl)
    obtain rfl : [fR x0, fI x1, fI x2, fI x3, fI x4] = w := Option.some.inj (show some [fR x0, fI x1, fI x2, fI x3, fI x4] = some w from e6)
    exact (fF_b (r := 1333) (by decide) rfl).mp e7
  have f1 : fB K n p 204 [fI x3, fI x4, fI x5] σ := by
    obtain ⟨w, e6, e7⟩ := m4 (3267, [3, 4, 5]) (List.mem_of_getElem? (i := 1) rfl)
    obtain rfl : [fI x3, fI x4, fI x5] = w := Option.some.inj (show some [fI x3, fI x4, fI x5] = some w from e6)
    exact (fF_b (r := 3267) (by decide) rfl).mp e7
  have f2 : fB K n p 35 [fI x3] σ := by
    obtain ⟨w, e6, e7⟩ := m4 (561, [3]) (List.mem_of_getElem? (i := 2) rfl)
    obtain rfl : [fI x3] = w := Option.some.inj (show some [fI x3] = some w from e6)
    exact (fF_b (r := 561) (by decide) rfl).mp e7
  clear m1 m2 m3 m4
  obtain ⟨a9_0, lo9_0, hi9_0, r9_0, S0, C0, e9_0, T0, V0⟩ := (fL_o (by decide) (by decide)).mp f0
  cases e9_0
  obtain ⟨y0_0, y0_1, e8_0, eS0, eC0⟩ := T0
  cases e8_0
  subst eS0
  subst eC0
  obtain ⟨y1_0, y1_1, y1_2, e8_1, h1, i1, q1⟩ := (fP_o (by decide)).mp f1
  cases e8_1
  obtain ⟨y2_0, e9_2, h2⟩ := f2
  cases e9_2
  have hmk : ((fq p).1 x3.toInt.toNat).toInt % 8 = 2 := by
    unfold fOw at h2
    rw [fNc] at h2
    rw [h2]
    omega
  have q0 : fB K n (p) 81 [fR x0, fI x1, fI x2, fI x3] σ := by
    refine (fL_o (by decide) (by decide)).mpr ⟨x0, x1, x2, _, _, _, rfl, (Or.inl ⟨x3, rfl, rfl, rfl⟩), ?_⟩
    exact fCv_w V0 ((show _ = x1.toInt from rfl).trans (show x1.toInt = _ from rfl)) (by have e1 : fEc 83 = 0 := rfl; have e2 : fEc 81 = 0 := rfl; omega) (fun x h => Or.inr (Or.inl ⟨hmk, h⟩)) (by
      intro y hy
      unfold fGn at hy
      rw [hmk] at hy
      rcases hy with hy | ⟨-, j, j1, j2, j3, hp, hy⟩ | hy | hy
      · omega
      · refine ⟨j, j1, j2, j3, ?_, hy⟩
        by_cases hj : 8 * x3.toInt + j < x4.toInt
        · exact hj
        · have := fHp_no (s := x3.toInt.toNat) (i := (x4.toInt - 8 * x3.toInt).toNat) (j := j) (by omega) (by omega)
          omega
      · omega
      · omega)
  exact ⟨p, fun _ => rfl, ⟨(fun q h => by cases h), fun q h => (by cases h), (fun f h => by cases h), (aAllc ⟨_, rfl, (fF_b (r := 1300) (by decide) rfl).mpr q0⟩ (fun f h => by cases h))⟩, [], List.mem_cons_self, fun f h => (by cases h)⟩
set_option maxRecDepth 8192 in
theorem rw_ruGKaSE {K : Nat → Nat} {n : Nat} : aGho (fF K n) fa_T K n (fJX K n) ag_ruGKaSE := by
  refine aGho_of ⟨rfl, rfl⟩ ?_
  intro p σ ρ hH hX hA hM
  have hG := aAG_of hA.1 (fun i e v he hv => (hA.2 i e v he hv).1)
  clear hA
  obtain ⟨v0, v1, v2, v3, v4, rfl, g0, g1, g2, g3, g4⟩ := fA_5 hG
  clear hG
  obtain ⟨x0, rfl, b0, d0⟩ := fG_ref (by decide) g0
  obtain ⟨x1, rfl, b1, d1⟩ := aG_int g1
  dsimp only at b1 d1
  obtain ⟨x2, rfl, b2, d2⟩ := aG_int g2
  dsimp only at b2 d2
  obtain ⟨x3, rfl, b3, d3⟩ := aG_int g3
  dsimp only at b3 d3
  obtain ⟨x4, rfl, b4, d4⟩ := aG_int g4
  dsimp only at b4 d4
  obtain ⟨m1, m2, m3, m4⟩ := hM
  clear m1 m2 m3 m4
  have q0 : fB K n (p) 86 [fR x0, fI x1, fI x1, fI x2, fI x3, fI x4] σ := by
    obtain ⟨g, hg9⟩ := fRow hH b0 d0 rfl (by decide)
    refine (fL_o (by decide) (by decide)).mpr ⟨x0, x1, x1, _, _, _, rfl, ⟨x2, x3, x4, rfl, rfl, rfl⟩, ?_⟩
    exact fCv_0 b0 (by unfold fRw; omega) hg9 (by have e1 : fEc 86 = 0 := rfl; show x1.toInt + fEc 86 ≤ x1.toInt; omega) (by
      rintro x (⟨j, j1, j2, j3, j4, hp, -⟩ | h | h)
      · omega
      · exact h.1
      · exact h.1)
  exact ⟨p, fun _ => rfl, ⟨(fun q h => by cases h), fun q h => (by cases h), (fun f h => by cases h), (aAllc ⟨_, rfl, (fF_b (r := 1382) (by decide) rfl).mpr q0⟩ (fun f h => by cases h))⟩, [], List.mem_cons_self, fun f h => (by cases h)⟩
set_option maxRecDepth 8192 in
theorem rw_ruGKsSE {K : Nat → Nat} {n : Nat} : aGho (fF K n) fa_T K n (fJX K n) ag_ruGKsSE := by
  refine aGho_of ⟨rfl, rfl⟩ ?_
  intro p σ ρ hH hX hA hM
  have hG := aAG_of hA.1 (fun i e v he hv => (hA.2 i e v he hv).1)
  clear hA
  obtain ⟨v0, v1, v2, v3, v4, v5, v6, v7, rfl, g0, g1, g2, g3, g4, g5, g6, g7⟩ := fA_8 hG
  clear hG
  obtain ⟨x0, rfl, b0, d0⟩ := fG_ref (by decide) g0
  obtain ⟨x1, rfl, b1, d1⟩ := aG_int g1
  dsimp only at b1 d1
  obtain ⟨x2, rfl, b2, d2⟩ := aG_int g2
  dsimp only at b2 d2
  obtain ⟨x3, rfl, b3, d3⟩ := aG_int g3
  dsimp only at b3 d3
  obtain ⟨x4, rfl, b4, d4⟩ := aG_int g4
  dsimp only at b4 d4
  obtain ⟨x5, rfl, b5, d5⟩ := aG_int g5
  dsimp only at b5 d5
  obtain ⟨x6, rfl, b6, d6⟩ := aG_int g6
  dsimp only at b6 d6
  obtain ⟨x7, rfl, b7, d7⟩ := aG_int g7
  dsimp only at b7 d7
  obtain ⟨m1, m2, m3, m4⟩ := hM
  have l0 : 0 ≤ (1 * x2.toInt + (-512 * x4.toInt + (-8 * x5.toInt + 0))) + 0 := by
    obtain ⟨z, e6, e7⟩ := m3 ([(2, 1), (4, -512), (5, -8)], 0) (List.mem_of_getElem? (i := 0) rfl)
    obtain rfl : (1 * x2.toInt + (-512 * x4.toInt + (-8 * x5.toInt + 0))) = z := Option.some.inj (show some (1 * x2.toInt + (-512 * x4.toInt + (-8 * x5.toInt + 0))) = some z from e6)
    exact e7
  have l1 : 0 ≤ (-1 * x2.toInt + (512 * x4.toInt + (8 * x5.toInt + 0))) + 0 := by
    obtain ⟨z, e6, e7⟩ := m3 ([(2, -1), (4, 512), (5, 8)], 0) (List.mem_of_getElem? (i := 1) rfl)
    obtain rfl : (-1 * x2.toInt + (512 * x4.toInt + (8 * x5.toInt + 0))) = z := Option.some.inj (show some (-1 * x2.toInt + (512 * x4.toInt + (8 * x5.toInt + 0))) = some z from e6)
    exact e7
  have l2 : 0 ≤ (1 * x1.toInt + (-1 * x3.toInt + 0)) + 0 := by
    obtain ⟨z, e6, e7⟩ := m3 ([(1, 1), (3, -1)], 0) (List.mem_of_getElem? (i := 2) rfl)
    obtain rfl : (1 * x1.toInt + (-1 * x3.toInt + 0)) = z := Option.some.inj (show some (1 * x1.toInt + (-1 * x3.toInt + 0)) = some z from e6)
    exact e7
  have f0 : fB K n p 86 [fR x0, fI x3, fI x1, fI x4, fI x7, fI x6] σ := by
    obtain ⟨w, e6, e7⟩ := m4 (1382, [0, 3, 1, 4, 7, 6]) (List.mem_of_getElem? (i := 0) rfl)
    obtain rfl : [fR x0, fI x3, fI x1, fI x4, fI x7, fI x6] = w := Option.some.inj (show some [fR x0, fI x3, fI x1, fI x4, fI x7, fI x6] = some w from e6)
    exact (fF_b (r := 1382) (by decide) rfl).mp e7
  have f1 : fB K n p 50 [fI x4, fI x6, fI x5] σ := by
    obtain ⟨w, e6, e7⟩ := m4 (803, [4, 6, 5]) (List.mem_of_getElem? (i := 1) rfl)
    obtain rfl : [fI x4, fI x6, fI x5] = w := Option.some.inj (show some [fI x4, fI x6, fI x5] = some w from e6)
    exact (fF_b (r := 803) (by decide) rfl).mp e7
  have f2 : fB K n p 48 [fI x5] σ := by
    obtain ⟨w, e6, e7⟩ := m4 (769, [5]) (List.mem_of_getElem? (i := 2) rfl)
    obtain rfl : [fI x5] = w := Option.some.inj (show some [fI x5] = some w from e6)
    exact (fF_b (r := 769) (by decide) rfl).mp e7
  clear m1 m2 m3 m4
  obtain ⟨a9_0, lo9_0, hi9_0, r9_0, S0, C0, e9_0, T0, V0⟩ := (fL_o (by decide) (by decide)).mp f0
  cases e9_0
  obtain ⟨y0_0, y0_1, y0_2, e8_0, eS0, eC0⟩ := T0
  cases e8_0
  subst eS0
  subst eC0
  obtain ⟨y1_0, y1_1, y1_2, e8_1, h1, i1⟩ := (fE_o (by decide)).mp f1
  cases e8_1
  obtain ⟨y2_0, e8_2, h2⟩ := (fE_o (by decide)).mp f2
  cases e8_2
  have q0 : fB K n (p) 87 [fR x0, fI x3, fI x1, fI x4, fI x7, fI x6] (jup σ x0 (jsto (σ x0) x1.toNatClampNeg x2)) := by
    refine (fL_o (by decide) (by decide)).mpr ⟨x0, x3, x1, _, _, _, rfl, ⟨x4, x7, x6, rfl, rfl, rfl⟩, ?_⟩
    exact fCv_st V0 (by rw [fNc]; have e1 : fEc 86 = 0 := rfl; omega) (by have e1 : fEc 86 = 0 := rfl; show x3.toInt ≤ _; omega) (by have e1 : fEc 86 = 0 := rfl; have e2 : fEc 87 = 1 := rfl; omega) (Or.inl ⟨x6.toInt, by omega, by omega, i1, by rw [← h1]; exact h2, trivial, by rw [← h1]; omega⟩) (by
      rintro y (⟨j, j1, j2, j3, j4, hp, hy⟩ | h | h)
      · by_cases hh : j = x6.toInt
        · exact Or.inr (fI32 (by rw [hy, hh, ← h1]; omega))
        · exact Or.inl (Or.inl ⟨j, j1, j2, j3, j4, by omega, hy⟩)
      · exact h.1.elim
      · exact h.1.elim)
  exact ⟨p, fun _ => rfl, ⟨(fun q h => by cases h), fun q h => (by cases h), (fun f h => by cases h), (aAllc ⟨_, rfl, fF_p (r := 1398) (by decide) (by decide) rfl q0⟩ (fun f h => by cases h))⟩, [], List.mem_cons_self, fun f h => (by cases h)⟩
set_option maxRecDepth 8192 in
theorem rw_ruGKnSE {K : Nat → Nat} {n : Nat} : aGho (fF K n) fa_T K n (fJX K n) ag_ruGKnSE := by
  refine aGho_of ⟨rfl, rfl⟩ ?_
  intro p σ ρ hH hX hA hM
  have hG := aAG_of hA.1 (fun i e v he hv => (hA.2 i e v he hv).1)
  clear hA
  obtain ⟨v0, v1, v2, v3, v4, v5, v6, rfl, g0, g1, g2, g3, g4, g5, g6⟩ := fA_7 hG
  clear hG
  obtain ⟨x0, rfl, b0, d0⟩ := fG_ref (by decide) g0
  obtain ⟨x1, rfl, b1, d1⟩ := aG_int g1
  dsimp only at b1 d1
  obtain ⟨x2, rfl, b2, d2⟩ := aG_int g2
  dsimp only at b2 d2
  obtain ⟨x3, rfl, b3, d3⟩ := aG_int g3
  dsimp only at b3 d3
  obtain ⟨x4, rfl, b4, d4⟩ := aG_int g4
  dsimp only at b4 d4
  obtain ⟨x5, rfl, b5, d5⟩ := aG_int g5
  dsimp only at b5 d5
  obtain ⟨x6, rfl, b6, d6⟩ := aG_int g6
  dsimp only at b6 d6
  obtain ⟨m1, m2, m3, m4⟩ := hM
  have l0 : 0 ≤ (1 * x6.toInt + (-1 * x2.toInt + 0)) + -1 := by
    obtain ⟨z, e6, e7⟩ := m3 ([(6, 1), (2, -1)], -1) (List.mem_of_getElem? (i := 0) rfl)
    obtain rfl : (1 * x6.toInt + (-1 * x2.toInt + 0)) = z := Option.some.inj (show some (1 * x6.toInt + (-1 * x2.toInt + 0)) = some z from e6)
    exact e7
  have l1 : 0 ≤ (-1 * x6.toInt + (1 * x2.toInt + 0)) + 1 := by
    obtain ⟨z, e6, e7⟩ := m3 ([(6, -1), (2, 1)], 1) (List.mem_of_getElem? (i := 1) rfl)
    obtain rfl : (-1 * x6.toInt + (1 * x2.toInt + 0)) = z := Option.some.inj (show some (-1 * x6.toInt + (1 * x2.toInt + 0)) = some z from e6)
    exact e7
  have f0 : fB K n p 87 [fR x0, fI x1, fI x2, fI x3, fI x4, fI x5] σ := by
    obtain ⟨w, e6, e7⟩ := m4 (1398, [0, 1, 2, 3, 4, 5]) (List.mem_of_getElem? (i := 0) rfl)
    obtain rfl : [fR x0, fI x1, fI x2, fI x3, fI x4, fI x5] = w := Option.some.inj (show some [fR x0, fI x1, fI x2, fI x3, fI x4, fI x5] = some w from e6)
    exact (fF_b (r := 1398) (by decide) rfl).mp e7
  clear m1 m2 m3 m4
  obtain ⟨a9_0, lo9_0, hi9_0, r9_0, S0, C0, e9_0, T0, V0⟩ := (fL_o (by decide) (by decide)).mp f0
  cases e9_0
  obtain ⟨y0_0, y0_1, y0_2, e8_0, eS0, eC0⟩ := T0
  cases e8_0
  subst eS0
  subst eC0
  have q0 : fB K n (p) 88 [fR x0, fI x1, fI x6, fI x3, fI x4, fI x5] σ := by
    refine (fL_o (by decide) (by decide)).mpr ⟨x0, x1, x6, _, _, _, rfl, ⟨x3, x4, x5, rfl, rfl, rfl⟩, ?_⟩
    exact fCv_w V0 ((show _ = x1.toInt from rfl).trans (show x1.toInt = _ from rfl)) (by have e1 : fEc 87 = 1 := rfl; have e2 : fEc 88 = 0 := rfl; omega) (fun x h => h) (by
      exact fun x h => h)
  exact ⟨p, fun _ => rfl, ⟨(fun q h => by cases h), fun q h => (by cases h), (fun f h => by cases h), (aAllc ⟨_, rfl, (fF_b (r := 1414) (by decide) rfl).mpr q0⟩ (fun f h => by cases h))⟩, [], List.mem_cons_self, fun f h => (by cases h)⟩
set_option maxRecDepth 8192 in
theorem rw_ruGKoSE {K : Nat → Nat} {n : Nat} : aGho (fF K n) fa_T K n (fJX K n) ag_ruGKoSE := by
  refine aGho_of ⟨rfl, rfl⟩ ?_
  intro p σ ρ hH hX hA hM
  have hG := aAG_of hA.1 (fun i e v he hv => (hA.2 i e v he hv).1)
  clear hA
  obtain ⟨v0, v1, v2, v3, v4, v5, v6, rfl, g0, g1, g2, g3, g4, g5, g6⟩ := fA_7 hG
  clear hG
  obtain ⟨x0, rfl, b0, d0⟩ := fG_ref (by decide) g0
  obtain ⟨x1, rfl, b1, d1⟩ := aG_int g1
  dsimp only at b1 d1
  obtain ⟨x2, rfl, b2, d2⟩ := aG_int g2
  dsimp only at b2 d2
  obtain ⟨x3, rfl, b3, d3⟩ := aG_int g3
  dsimp only at b3 d3
  obtain ⟨x4, rfl, b4, d4⟩ := aG_int g4
  dsimp only at b4 d4
  obtain ⟨x5, rfl, b5, d5⟩ := aG_int g5
  dsimp only at b5 d5
  obtain ⟨x6, rfl, b6, d6⟩ := aG_int g6
  dsimp only at b6 d6
  obtain ⟨m1, m2, m3, m4⟩ := hM
  have f0 : fB K n p 86 [fR x0, fI x1, fI x2, fI x3, fI x4, fI x5] σ := by
    obtain ⟨w, e6, e7⟩ := m4 (1382, [0, 1, 2, 3, 4, 5]) (List.mem_of_getElem? (i := 0) rfl)
    obtain rfl : [fR x0, fI x1, fI x2, fI x3, fI x4, fI x5] = w := Option.some.inj (show some [fR x0, fI x1, fI x2, fI x3, fI x4, fI x5] = some w from e6)
    exact (fF_b (r := 1382) (by decide) rfl).mp e7
  have f1 : fB K n p 50 [fI x3, fI x5, fI x6] σ := by
    obtain ⟨w, e6, e7⟩ := m4 (803, [3, 5, 6]) (List.mem_of_getElem? (i := 1) rfl)
    obtain rfl : [fI x3, fI x5, fI x6] = w := Option.some.inj (show some [fI x3, fI x5, fI x6] = some w from e6)
    exact (fF_b (r := 803) (by decide) rfl).mp e7
  have f2 : fB K n p 49 [fI x6] σ := by
    obtain ⟨w, e6, e7⟩ := m4 (785, [6]) (List.mem_of_getElem? (i := 2) rfl)
    obtain rfl : [fI x6] = w := Option.some.inj (show some [fI x6] = some w from e6)
    exact (fF_b (r := 785) (by decide) rfl).mp e7
  clear m1 m2 m3 m4
  obtain ⟨a9_0, lo9_0, hi9_0, r9_0, S0, C0, e9_0, T0, V0⟩ := (fL_o (by decide) (by decide)).mp f0
  cases e9_0
  obtain ⟨y0_0, y0_1, y0_2, e8_0, eS0, eC0⟩ := T0
  cases e8_0
  subst eS0
  subst eC0
  obtain ⟨y1_0, y1_1, y1_2, e8_1, h1, i1⟩ := (fE_o (by decide)).mp f1
  cases e8_1
  obtain ⟨y2_0, e8_2, h2⟩ := (fE_o (by decide)).mp f2
  cases e8_2
  have q0 : fB K n (p) 88 [fR x0, fI x1, fI x2, fI x3, fI x4, fI x5] σ := by
    refine (fL_o (by decide) (by decide)).mpr ⟨x0, x1, x2, _, _, _, rfl, ⟨x3, x4, x5, rfl, rfl, rfl⟩, ?_⟩
    exact fCv_w V0 ((show _ = x1.toInt from rfl).trans (show x1.toInt = _ from rfl)) (by have e1 : fEc 86 = 0 := rfl; have e2 : fEc 88 = 0 := rfl; omega) (fun x h => h) (by
      rintro y (⟨j, j1, j2, j3, j4, hp, hy⟩ | h | h)
      · by_cases hh : j = x5.toInt
        · exfalso
          rw [hh, ← h1] at j4
          exact j4.elim h2.1 (fun h => h h2.2)
        · exact Or.inl ⟨j, j1, j2, j3, j4, by omega, hy⟩
      · exact h.1.elim
      · exact h.1.elim)
  exact ⟨p, fun _ => rfl, ⟨(fun q h => by cases h), fun q h => (by cases h), (fun f h => by cases h), (aAllc ⟨_, rfl, (fF_b (r := 1414) (by decide) rfl).mpr q0⟩ (fun f h => by cases h))⟩, [], List.mem_cons_self, fun f h => (by cases h)⟩
set_option maxRecDepth 8192 in
theorem rw_ruGKzSE {K : Nat → Nat} {n : Nat} : aGho (fF K n) fa_T K n (fJX K n) ag_ruGKzSE := by
  refine aGho_of ⟨rfl, rfl⟩ ?_
  intro p σ ρ hH hX hA hM
  have hG := aAG_of hA.1 (fun i e v he hv => (hA.2 i e v he hv).1)
  clear hA
  obtain ⟨v0, v1, v2, v3, v4, v5, v6, rfl, g0, g1, g2, g3, g4, g5, g6⟩ := fA_7 hG
  clear hG
  obtain ⟨x0, rfl, b0, d0⟩ := fG_ref (by decide) g0
  obtain ⟨x1, rfl, b1, d1⟩ := aG_int g1
  dsimp only at b1 d1
  obtain ⟨x2, rfl, b2, d2⟩ := aG_int g2
  dsimp only at b2 d2
  obtain ⟨x3, rfl, b3, d3⟩ := aG_int g3
  dsimp only at b3 d3
  obtain ⟨x4, rfl, b4, d4⟩ := aG_int g4
  dsimp only at b4 d4
  obtain ⟨x5, rfl, b5, d5⟩ := aG_int g5
  dsimp only at b5 d5
  obtain ⟨x6, rfl, b6, d6⟩ := aG_int g6
  dsimp only at b6 d6
  obtain ⟨m1, m2, m3, m4⟩ := hM
  have f0 : fB K n p 86 [fR x0, fI x1, fI x2, fI x3, fI x4, fI x5] σ := by
    obtain ⟨w, e6, e7⟩ := m4 (1382, [0, 1, 2, 3, 4, 5]) (List.mem_of_getElem? (i := 0) rfl)
    obtain rfl : [fR x0, fI x1, fI x2, fI x3, fI x4, fI x5] = w := Option.some.inj (show some [fR x0, fI x1, fI x2, fI x3, fI x4, fI x5] = some w from e6)
    exact (fF_b (r := 1382) (by decide) rfl).mp e7
  have f1 : fB K n p 19 [fI x3, fI x5, fI x6] σ := by
    obtain ⟨w, e6, e7⟩ := m4 (307, [3, 5, 6]) (List.mem_of_getElem? (i := 1) rfl)
    obtain rfl : [fI x3, fI x5, fI x6] = w := Option.some.inj (show some [fI x3, fI x5, fI x6] = some w from e6)
    exact (fF_b (r := 307) (by decide) rfl).mp e7
  clear m1 m2 m3 m4
  obtain ⟨a9_0, lo9_0, hi9_0, r9_0, S0, C0, e9_0, T0, V0⟩ := (fL_o (by decide) (by decide)).mp f0
  cases e9_0
  obtain ⟨y0_0, y0_1, y0_2, e8_0, eS0, eC0⟩ := T0
  cases e8_0
  subst eS0
  subst eC0
  obtain ⟨y1_0, y1_1, y1_2, e9_1, h1⟩ := f1
  cases e9_1
  have q0 : fB K n (p) 88 [fR x0, fI x1, fI x2, fI x3, fI x4, fI x5] σ := by
    refine (fL_o (by decide) (by decide)).mpr ⟨x0, x1, x2, _, _, _, rfl, ⟨x3, x4, x5, rfl, rfl, rfl⟩, ?_⟩
    exact fCv_w V0 ((show _ = x1.toInt from rfl).trans (show x1.toInt = _ from rfl)) (by have e1 : fEc 86 = 0 := rfl; have e2 : fEc 88 = 0 := rfl; omega) (fun x h => h) (by
      rintro y (⟨j, j1, j2, j3, j4, hp, hy⟩ | h | h)
      · by_cases hh : j = x5.toInt
        · rw [hh] at j3
          omega
        · exact Or.inl ⟨j, j1, j2, j3, j4, by omega, hy⟩
      · exact h.1.elim
      · exact h.1.elim)
  exact ⟨p, fun _ => rfl, ⟨(fun q h => by cases h), fun q h => (by cases h), (fun f h => by cases h), (aAllc ⟨_, rfl, (fF_b (r := 1414) (by decide) rfl).mpr q0⟩ (fun f h => by cases h))⟩, [], List.mem_cons_self, fun f h => (by cases h)⟩
set_option maxRecDepth 8192 in
theorem rw_ruGKqSE {K : Nat → Nat} {n : Nat} : aGho (fF K n) fa_T K n (fJX K n) ag_ruGKqSE := by
  refine aGho_of ⟨rfl, rfl⟩ ?_
  intro p σ ρ hH hX hA hM
  have hG := aAG_of hA.1 (fun i e v he hv => (hA.2 i e v he hv).1)
  clear hA
  obtain ⟨v0, v1, v2, v3, v4, v5, v6, rfl, g0, g1, g2, g3, g4, g5, g6⟩ := fA_7 hG
  clear hG
  obtain ⟨x0, rfl, b0, d0⟩ := fG_ref (by decide) g0
  obtain ⟨x1, rfl, b1, d1⟩ := aG_int g1
  dsimp only at b1 d1
  obtain ⟨x2, rfl, b2, d2⟩ := aG_int g2
  dsimp only at b2 d2
  obtain ⟨x3, rfl, b3, d3⟩ := aG_int g3
  dsimp only at b3 d3
  obtain ⟨x4, rfl, b4, d4⟩ := aG_int g4
  dsimp only at b4 d4
  obtain ⟨x5, rfl, b5, d5⟩ := aG_int g5
  dsimp only at b5 d5
  obtain ⟨x6, rfl, b6, d6⟩ := aG_int g6
  dsimp only at b6 d6
  obtain ⟨m1, m2, m3, m4⟩ := hM
  have l0 : 0 ≤ (1 * x6.toInt + (-1 * x5.toInt + 0)) + -1 := by
    obtain ⟨z, e6, e7⟩ := m3 ([(6, 1), (5, -1)], -1) (List.mem_of_getElem? (i := 0) rfl)
    obtain rfl : (1 * x6.toInt + (-1 * x5.toInt + 0)) = z := Option.some.inj (show some (1 * x6.toInt + (-1 * x5.toInt + 0)) = some z from e6)
    exact e7
  have l1 : 0 ≤ (-1 * x6.toInt + (1 * x5.toInt + 0)) + 1 := by
    obtain ⟨z, e6, e7⟩ := m3 ([(6, -1), (5, 1)], 1) (List.mem_of_getElem? (i := 1) rfl)
    obtain rfl : (-1 * x6.toInt + (1 * x5.toInt + 0)) = z := Option.some.inj (show some (-1 * x6.toInt + (1 * x5.toInt + 0)) = some z from e6)
    exact e7
  have f0 : fB K n p 88 [fR x0, fI x1, fI x2, fI x3, fI x4, fI x5] σ := by
    obtain ⟨w, e6, e7⟩ := m4 (1414, [0, 1, 2, 3, 4, 5]) (List.mem_of_getElem? (i := 0) rfl)
    obtain rfl : [fR x0, fI x1, fI x2, fI x3, fI x4, fI x5] = w := Option.some.inj (show some [fR x0, fI x1, fI x2, fI x3, fI x4, fI x5] = some w from e6)
    exact (fF_b (r := 1414) (by decide) rfl).mp e7
  clear m1 m2 m3 m4
  obtain ⟨a9_0, lo9_0, hi9_0, r9_0, S0, C0, e9_0, T0, V0⟩ := (fL_o (by decide) (by decide)).mp f0
  cases e9_0
  obtain ⟨y0_0, y0_1, y0_2, e8_0, eS0, eC0⟩ := T0
  cases e8_0
  subst eS0
  subst eC0
  have q0 : fB K n (p) 86 [fR x0, fI x1, fI x2, fI x3, fI x4, fI x6] σ := by
    refine (fL_o (by decide) (by decide)).mpr ⟨x0, x1, x2, _, _, _, rfl, ⟨x3, x4, x6, rfl, rfl, rfl⟩, ?_⟩
    exact fCv_w V0 ((show _ = x1.toInt from rfl).trans (show x1.toInt = _ from rfl)) (by have e1 : fEc 88 = 0 := rfl; have e2 : fEc 86 = 0 := rfl; omega) (fun x h => h) (by
      rintro y (⟨j, j1, j2, j3, j4, hp, hy⟩ | h | h)
      · exact Or.inl ⟨j, j1, j2, j3, j4, by omega, hy⟩
      · exact h.1.elim
      · exact h.1.elim)
  exact ⟨p, fun _ => rfl, ⟨(fun q h => by cases h), fun q h => (by cases h), (fun f h => by cases h), (aAllc ⟨_, rfl, (fF_b (r := 1382) (by decide) rfl).mpr q0⟩ (fun f h => by cases h))⟩, [], List.mem_cons_self, fun f h => (by cases h)⟩
set_option maxRecDepth 8192 in
theorem rw_ruGKdSE {K : Nat → Nat} {n : Nat} : aGho (fF K n) fa_T K n (fJX K n) ag_ruGKdSE := by
  refine aGho_of ⟨rfl, rfl⟩ ?_
  intro p σ ρ hH hX hA hM
  have hG := aAG_of hA.1 (fun i e v he hv => (hA.2 i e v he hv).1)
  clear hA
  obtain ⟨v0, v1, v2, v3, v4, v5, rfl, g0, g1, g2, g3, g4, g5⟩ := fA_6 hG
  clear hG
  obtain ⟨x0, rfl, b0, d0⟩ := fG_ref (by decide) g0
  obtain ⟨x1, rfl, b1, d1⟩ := aG_int g1
  dsimp only at b1 d1
  obtain ⟨x2, rfl, b2, d2⟩ := aG_int g2
  dsimp only at b2 d2
  obtain ⟨x3, rfl, b3, d3⟩ := aG_int g3
  dsimp only at b3 d3
  obtain ⟨x4, rfl, b4, d4⟩ := aG_int g4
  dsimp only at b4 d4
  obtain ⟨x5, rfl, b5, d5⟩ := aG_int g5
  dsimp only at b5 d5
  obtain ⟨m1, m2, m3, m4⟩ := hM
  have f0 : fB K n p 86 [fR x0, fI x1, fI x2, fI x3, fI x4, fI x5] σ := by
    obtain ⟨w, e6, e7⟩ := m4 (1382, [0, 1, 2, 3, 4, 5]) (List.mem_of_getElem? (i := 0) rfl)
    obtain rfl : [fR x0, fI x1, fI x2, fI x3, fI x4, fI x5] = w := Option.some.inj (show some [fR x0, fI x1, fI x2, fI x3, fI x4, fI x5] = some w from e6)
    exact (fF_b (r := 1382) (by decide) rfl).mp e7
  clear m1 m2 m3 m4
  obtain ⟨a9_0, lo9_0, hi9_0, r9_0, S0, C0, e9_0, T0, V0⟩ := (fL_o (by decide) (by decide)).mp f0
  cases e9_0
  obtain ⟨y0_0, y0_1, y0_2, e8_0, eS0, eC0⟩ := T0
  cases e8_0
  subst eS0
  subst eC0
  have q0 : fB K n (p) 89 [fR x0, fI x1, fI x2, fI x3, fI x4] σ := by
    refine (fL_o (by decide) (by decide)).mpr ⟨x0, x1, x2, _, _, _, rfl, ⟨x3, x4, rfl, rfl, rfl⟩, ?_⟩
    exact fCv_w V0 ((show _ = x1.toInt from rfl).trans (show x1.toInt = _ from rfl)) (by have e1 : fEc 86 = 0 := rfl; have e2 : fEc 89 = 0 := rfl; omega) (fun x h => h) (by
      rintro y (⟨j, j1, j2, j3, j4, hp, hy⟩ | h | h)
      · exact Or.inl ⟨j, j1, j2, j3, j4, by omega, hy⟩
      · exact h.1.elim
      · exact h.1.elim)
  exact ⟨p, fun _ => rfl, ⟨(fun q h => by cases h), fun q h => (by cases h), (fun f h => by cases h), (aAllc ⟨_, rfl, (fF_b (r := 1429) (by decide) rfl).mpr q0⟩ (fun f h => by cases h))⟩, [], List.mem_cons_self, fun f h => (by cases h)⟩
set_option maxRecDepth 8192 in
theorem rw_ruGKeSE {K : Nat → Nat} {n : Nat} : aGho (fF K n) fa_T K n (fJX K n) ag_ruGKeSE := by
  refine aGho_of ⟨rfl, rfl⟩ ?_
  intro p σ ρ hH hX hA hM
  have hG := aAG_of hA.1 (fun i e v he hv => (hA.2 i e v he hv).1)
  clear hA
  obtain ⟨v0, v1, v2, v3, v4, rfl, g0, g1, g2, g3, g4⟩ := fA_5 hG
  clear hG
  obtain ⟨x0, rfl, b0, d0⟩ := fG_ref (by decide) g0
  obtain ⟨x1, rfl, b1, d1⟩ := aG_int g1
  dsimp only at b1 d1
  obtain ⟨x2, rfl, b2, d2⟩ := aG_int g2
  dsimp only at b2 d2
  obtain ⟨x3, rfl, b3, d3⟩ := aG_int g3
  dsimp only at b3 d3
  obtain ⟨x4, rfl, b4, d4⟩ := aG_int g4
  dsimp only at b4 d4
  obtain ⟨m1, m2, m3, m4⟩ := hM
  have f0 : fB K n p 89 [fR x0, fI x1, fI x2, fI x3, fI x4] σ := by
    obtain ⟨w, e6, e7⟩ := m4 (1429, [0, 1, 2, 3, 4]) (List.mem_of_getElem? (i := 0) rfl)
    obtain rfl : [fR x0, fI x1, fI x2, fI x3, fI x4] = w := Option.some.inj (show some [fR x0, fI x1, fI x2, fI x3, fI x4] = some w from e6)
    exact (fF_b (r := 1429) (by decide) rfl).mp e7
  have f1 : fB K n p 36 [fI x3] σ := by
    obtain ⟨w, e6, e7⟩ := m4 (577, [3]) (List.mem_of_getElem? (i := 1) rfl)
    obtain rfl : [fI x3] = w := Option.some.inj (show some [fI x3] = some w from e6)
    exact (fF_b (r := 577) (by decide) rfl).mp e7
  clear m1 m2 m3 m4
  obtain ⟨a9_0, lo9_0, hi9_0, r9_0, S0, C0, e9_0, T0, V0⟩ := (fL_o (by decide) (by decide)).mp f0
  cases e9_0
  obtain ⟨y0_0, y0_1, e8_0, eS0, eC0⟩ := T0
  cases e8_0
  subst eS0
  subst eC0
  obtain ⟨y1_0, e9_1, h1⟩ := f1
  cases e9_1
  have hmk : ((fq p).1 x3.toInt.toNat).toInt % 8 = 6 := by
    unfold fOw at h1
    rw [fNc] at h1
    rw [h1]
    omega
  have q0 : fB K n (p) 82 [fR x0, fI x1, fI x2, fI x3, fI x4] σ := by
    refine (fL_o (by decide) (by decide)).mpr ⟨x0, x1, x2, _, _, _, rfl, (Or.inl ⟨x3, x4, rfl, rfl, rfl⟩), ?_⟩
    exact fCv_w V0 ((show _ = x1.toInt from rfl).trans (show x1.toInt = _ from rfl)) (by have e1 : fEc 89 = 0 := rfl; have e2 : fEc 82 = 0 := rfl; omega) (fun x h => Or.inr (Or.inr (Or.inl ⟨hmk, h⟩))) (by
      intro y hy
      unfold fGn at hy
      rw [hmk] at hy
      rcases hy with hy | hy | ⟨-, hy⟩ | hy
      · omega
      · omega
      · rcases hy with hy | ⟨-, hc, hy⟩ | ⟨-, hc, hy⟩
        · exact Or.inl hy
        · have := hc.1
          omega
        · have := hc.1
          omega
      · omega)
  exact ⟨p, fun _ => rfl, ⟨(fun q h => by cases h), fun q h => (by cases h), (fun f h => by cases h), (aAllc ⟨_, rfl, (fF_b (r := 1317) (by decide) rfl).mpr q0⟩ (fun f h => by cases h))⟩, [], List.mem_cons_self, fun f h => (by cases h)⟩
set_option maxRecDepth 8192 in
theorem rw_ruGKahSE {K : Nat → Nat} {n : Nat} : aGho (fF K n) fa_T K n (fJX K n) ag_ruGKahSE := by
  refine aGho_of ⟨rfl, rfl⟩ ?_
  intro p σ ρ hH hX hA hM
  have hG := aAG_of hA.1 (fun i e v he hv => (hA.2 i e v he hv).1)
  clear hA
  obtain ⟨v0, v1, v2, v3, v4, v5, v6, rfl, g0, g1, g2, g3, g4, g5, g6⟩ := fA_7 hG
  clear hG
  obtain ⟨x0, rfl, b0, d0⟩ := fG_ref (by decide) g0
  obtain ⟨x1, rfl, b1, d1⟩ := aG_int g1
  dsimp only at b1 d1
  obtain ⟨x2, rfl, b2, d2⟩ := aG_int g2
  dsimp only at b2 d2
  obtain ⟨x3, rfl, b3, d3⟩ := aG_int g3
  dsimp only at b3 d3
  obtain ⟨x4, rfl, b4, d4⟩ := aG_int g4
  dsimp only at b4 d4
  obtain ⟨x5, rfl, b5, d5⟩ := fG_ref (by decide) g5
  obtain ⟨x6, rfl, b6, d6⟩ := aG_int g6
  dsimp only at b6 d6
  obtain ⟨m1, m2, m3, m4⟩ := hM
  obtain ⟨a0, c0, fs0, w0, e1, s0, t0, e4⟩ := m1 (5, 2, 6) (List.mem_of_getElem? (i := 0) rfl)
  obtain rfl : x5 = a0 := Sum.inl.inj (Option.some.inj (Sum.inr.inj (Sum.inr.inj (Option.some.inj (show some (fR x5) = some _ from e1)))))
  obtain rfl : fI x6 = w0 := Option.some.inj (show some (fI x6) = some w0 from e4)
  clear e1 e4
  have f0 : fB K n p 1 [fR x5] σ := by
    obtain ⟨w, e6, e7⟩ := m4 (17, [5]) (List.mem_of_getElem? (i := 0) rfl)
    obtain rfl : [fR x5] = w := Option.some.inj (show some [fR x5] = some w from e6)
    exact (fF_b (r := 17) (by decide) rfl).mp e7
  have f1 : fB K n p 89 [fR x0, fI x1, fI x2, fI x3, fI x4] σ := by
    obtain ⟨w, e6, e7⟩ := m4 (1429, [0, 1, 2, 3, 4]) (List.mem_of_getElem? (i := 1) rfl)
    obtain rfl : [fR x0, fI x1, fI x2, fI x3, fI x4] = w := Option.some.inj (show some [fR x0, fI x1, fI x2, fI x3, fI x4] = some w from e6)
    exact (fF_b (r := 1429) (by decide) rfl).mp e7
  have f2 : fB K n p 36 [fI x3] σ := by
    obtain ⟨w, e6, e7⟩ := m4 (577, [3]) (List.mem_of_getElem? (i := 2) rfl)
    obtain rfl : [fI x3] = w := Option.some.inj (show some [fI x3] = some w from e6)
    exact (fF_b (r := 577) (by decide) rfl).mp e7
  clear m1 m2 m3 m4
  obtain ⟨a9_0, e9_0, h0, g0⟩ := f0
  cases e9_0
  obtain ⟨a9_1, lo9_1, hi9_1, r9_1, S1, C1, e9_1, T1, V1⟩ := (fL_o (by decide) (by decide)).mp f1
  cases e9_1
  obtain ⟨y1_0, y1_1, e8_1, eS1, eC1⟩ := T1
  cases e8_1
  subst eS1
  subst eC1
  obtain ⟨y2_0, e9_2, h2⟩ := f2
  cases e9_2
  have hmk : ((fq p).1 x3.toInt.toNat).toInt % 8 = 6 := by
    unfold fOw at h2
    rw [fNc] at h2
    rw [h2]
    omega
  have hF := fAt_of h0 s0
  have hsd := hF.2.1 x6 t0
  have q0 : fB K n (p) 82 [fR x0, fI x1, fI x2, fI x3, fI x4] σ := by
    refine (fL_o (by decide) (by decide)).mpr ⟨x0, x1, x2, _, _, _, rfl, (Or.inl ⟨x3, x4, rfl, rfl, rfl⟩), ?_⟩
    exact fCv_w V1 ((show _ = x1.toInt from rfl).trans (show x1.toInt = _ from rfl)) (by have e1 : fEc 89 = 0 := rfl; have e2 : fEc 82 = 0 := rfl; omega) (fun x h => Or.inr (Or.inr (Or.inl ⟨hmk, h⟩))) (by
      intro y hy
      unfold fGn at hy
      rw [hmk] at hy
      rcases hy with hy | hy | ⟨-, hy⟩ | hy
      · omega
      · omega
      · rcases hy with hy | ⟨-, hc, hy⟩ | ⟨-, hc, hy⟩
        · exact Or.inl hy
        · have h9 := hc.2.1
          rw [← hsd] at h9
          omega
        · have h9 := hc.2.1
          rw [← hsd] at h9
          omega
      · omega)
  exact ⟨p, fun _ => rfl, ⟨(fun q h => by cases h), fun q h => (by cases h), (fun f h => by cases h), (aAllc ⟨_, rfl, (fF_b (r := 1317) (by decide) rfl).mpr q0⟩ (fun f h => by cases h))⟩, [], List.mem_cons_self, fun f h => (by cases h)⟩
set_option maxRecDepth 8192 in
theorem rw_ruGKbhSE {K : Nat → Nat} {n : Nat} : aGho (fF K n) fa_T K n (fJX K n) ag_ruGKbhSE := by
  refine aGho_of ⟨rfl, rfl⟩ ?_
  intro p σ ρ hH hX hA hM
  have hG := aAG_of hA.1 (fun i e v he hv => (hA.2 i e v he hv).1)
  clear hA
  obtain ⟨v0, v1, v2, v3, v4, v5, v6, rfl, g0, g1, g2, g3, g4, g5, g6⟩ := fA_7 hG
  clear hG
  obtain ⟨x0, rfl, b0, d0⟩ := fG_ref (by decide) g0
  obtain ⟨x1, rfl, b1, d1⟩ := aG_int g1
  dsimp only at b1 d1
  obtain ⟨x2, rfl, b2, d2⟩ := aG_int g2
  dsimp only at b2 d2
  obtain ⟨x3, rfl, b3, d3⟩ := aG_int g3
  dsimp only at b3 d3
  obtain ⟨x4, rfl, b4, d4⟩ := aG_int g4
  dsimp only at b4 d4
  obtain ⟨x5, rfl, b5, d5⟩ := fG_ref (by decide) g5
  obtain ⟨x6, rfl, b6, d6⟩ := aG_int g6
  dsimp only at b6 d6
  obtain ⟨m1, m2, m3, m4⟩ := hM
  obtain ⟨a0, c0, fs0, w0, e1, s0, t0, e4⟩ := m1 (5, 2, 6) (List.mem_of_getElem? (i := 0) rfl)
  obtain rfl : x5 = a0 := Sum.inl.inj (Option.some.inj (Sum.inr.inj (Sum.inr.inj (Option.some.inj (show some (fR x5) = some _ from e1)))))
  obtain rfl : fI x6 = w0 := Option.some.inj (show some (fI x6) = some w0 from e4)
  clear e1 e4
  have f0 : fB K n p 1 [fR x5] σ := by
    obtain ⟨w, e6, e7⟩ := m4 (17, [5]) (List.mem_of_getElem? (i := 0) rfl)
    obtain rfl : [fR x5] = w := Option.some.inj (show some [fR x5] = some w from e6)
    exact (fF_b (r := 17) (by decide) rfl).mp e7
  have f1 : fB K n p 89 [fR x0, fI x1, fI x2, fI x3, fI x4] σ := by
    obtain ⟨w, e6, e7⟩ := m4 (1429, [0, 1, 2, 3, 4]) (List.mem_of_getElem? (i := 1) rfl)
    obtain rfl : [fR x0, fI x1, fI x2, fI x3, fI x4] = w := Option.some.inj (show some [fR x0, fI x1, fI x2, fI x3, fI x4] = some w from e6)
    exact (fF_b (r := 1429) (by decide) rfl).mp e7
  have f2 : fB K n p 36 [fI x3] σ := by
    obtain ⟨w, e6, e7⟩ := m4 (577, [3]) (List.mem_of_getElem? (i := 2) rfl)
    obtain rfl : [fI x3] = w := Option.some.inj (show some [fI x3] = some w from e6)
    exact (fF_b (r := 577) (by decide) rfl).mp e7
  clear m1 m2 m3 m4
  obtain ⟨a9_0, e9_0, h0, g0⟩ := f0
  cases e9_0
  obtain ⟨a9_1, lo9_1, hi9_1, r9_1, S1, C1, e9_1, T1, V1⟩ := (fL_o (by decide) (by decide)).mp f1
  cases e9_1
  obtain ⟨y1_0, y1_1, e8_1, eS1, eC1⟩ := T1
  cases e8_1
  subst eS1
  subst eC1
  obtain ⟨y2_0, e9_2, h2⟩ := f2
  cases e9_2
  have hmk : ((fq p).1 x3.toInt.toNat).toInt % 8 = 6 := by
    unfold fOw at h2
    rw [fNc] at h2
    rw [h2]
    omega
  have hF := fAt_of h0 s0
  have hsd := hF.2.1 x6 t0
  have q0 : fB K n (p) 82 [fR x0, fI x1, fI x2, fI x3, fI x4] σ := by
    refine (fL_o (by decide) (by decide)).mpr ⟨x0, x1, x2, _, _, _, rfl, (Or.inl ⟨x3, x4, rfl, rfl, rfl⟩), ?_⟩
    exact fCv_w V1 ((show _ = x1.toInt from rfl).trans (show x1.toInt = _ from rfl)) (by have e1 : fEc 89 = 0 := rfl; have e2 : fEc 82 = 0 := rfl; omega) (fun x h => Or.inr (Or.inr (Or.inl ⟨hmk, h⟩))) (by
      intro y hy
      unfold fGn at hy
      rw [hmk] at hy
      rcases hy with hy | hy | ⟨-, hy⟩ | hy
      · omega
      · omega
      · rcases hy with hy | ⟨-, hc, hy⟩ | ⟨-, hc, hy⟩
        · exact Or.inl hy
        · have h9 := hc.2.1
          rw [← hsd] at h9
          omega
        · have h9 := hc.2.1
          rw [← hsd] at h9
          omega
      · omega)
  exact ⟨p, fun _ => rfl, ⟨(fun q h => by cases h), fun q h => (by cases h), (fun f h => by cases h), (aAllc ⟨_, rfl, (fF_b (r := 1317) (by decide) rfl).mpr q0⟩ (fun f h => by cases h))⟩, [], List.mem_cons_self, fun f h => (by cases h)⟩
set_option maxRecDepth 8192 in
theorem rw_ruGKchSE {K : Nat → Nat} {n : Nat} : aGho (fF K n) fa_T K n (fJX K n) ag_ruGKchSE := by
  refine aGho_of ⟨rfl, rfl⟩ ?_
  intro p σ ρ hH hX hA hM
  have hG := aAG_of hA.1 (fun i e v he hv => (hA.2 i e v he hv).1)
  clear hA
  obtain ⟨v0, v1, v2, v3, v4, v5, v6, rfl, g0, g1, g2, g3, g4, g5, g6⟩ := fA_7 hG
  clear hG
  obtain ⟨x0, rfl, b0, d0⟩ := fG_ref (by decide) g0
  obtain ⟨x1, rfl, b1, d1⟩ := aG_int g1
  dsimp only at b1 d1
  obtain ⟨x2, rfl, b2, d2⟩ := aG_int g2
  dsimp only at b2 d2
  obtain ⟨x3, rfl, b3, d3⟩ := aG_int g3
  dsimp only at b3 d3
  obtain ⟨x4, rfl, b4, d4⟩ := aG_int g4
  dsimp only at b4 d4
  obtain ⟨x5, rfl, b5, d5⟩ := fG_ref (by decide) g5
  obtain ⟨x6, rfl, b6, d6⟩ := aG_int g6
  dsimp only at b6 d6
  obtain ⟨m1, m2, m3, m4⟩ := hM
  obtain ⟨a0, c0, fs0, w0, e1, s0, t0, e4⟩ := m1 (5, 2, 6) (List.mem_of_getElem? (i := 0) rfl)
  obtain rfl : x5 = a0 := Sum.inl.inj (Option.some.inj (Sum.inr.inj (Sum.inr.inj (Option.some.inj (show some (fR x5) = some _ from e1)))))
  obtain rfl : fI x6 = w0 := Option.some.inj (show some (fI x6) = some w0 from e4)
  clear e1 e4
  have f0 : fB K n p 1 [fR x5] σ := by
    obtain ⟨w, e6, e7⟩ := m4 (17, [5]) (List.mem_of_getElem? (i := 0) rfl)
    obtain rfl : [fR x5] = w := Option.some.inj (show some [fR x5] = some w from e6)
    exact (fF_b (r := 17) (by decide) rfl).mp e7
  have f1 : fB K n p 89 [fR x0, fI x1, fI x2, fI x3, fI x4] σ := by
    obtain ⟨w, e6, e7⟩ := m4 (1429, [0, 1, 2, 3, 4]) (List.mem_of_getElem? (i := 1) rfl)
    obtain rfl : [fR x0, fI x1, fI x2, fI x3, fI x4] = w := Option.some.inj (show some [fR x0, fI x1, fI x2, fI x3, fI x4] = some w from e6)
    exact (fF_b (r := 1429) (by decide) rfl).mp e7
  have f2 : fB K n p 36 [fI x3] σ := by
    obtain ⟨w, e6, e7⟩ := m4 (577, [3]) (List.mem_of_getElem? (i := 2) rfl)
    obtain rfl : [fI x3] = w := Option.some.inj (show some [fI x3] = some w from e6)
    exact (fF_b (r := 577) (by decide) rfl).mp e7
  clear m1 m2 m3 m4
  obtain ⟨a9_0, e9_0, h0, g0⟩ := f0
  cases e9_0
  obtain ⟨a9_1, lo9_1, hi9_1, r9_1, S1, C1, e9_1, T1, V1⟩ := (fL_o (by decide) (by decide)).mp f1
  cases e9_1
  obtain ⟨y1_0, y1_1, e8_1, eS1, eC1⟩ := T1
  cases e8_1
  subst eS1
  subst eC1
  obtain ⟨y2_0, e9_2, h2⟩ := f2
  cases e9_2
  have hmk : ((fq p).1 x3.toInt.toNat).toInt % 8 = 6 := by
    unfold fOw at h2
    rw [fNc] at h2
    rw [h2]
    omega
  have hF := fAt_of h0 s0
  have hsd := hF.2.1 x6 t0
  have q0 : fB K n (p) 82 [fR x0, fI x1, fI x2, fI x3, fI x4] σ := by
    refine (fL_o (by decide) (by decide)).mpr ⟨x0, x1, x2, _, _, _, rfl, (Or.inl ⟨x3, x4, rfl, rfl, rfl⟩), ?_⟩
    exact fCv_w V1 ((show _ = x1.toInt from rfl).trans (show x1.toInt = _ from rfl)) (by have e1 : fEc 89 = 0 := rfl; have e2 : fEc 82 = 0 := rfl; omega) (fun x h => Or.inr (Or.inr (Or.inl ⟨hmk, h⟩))) (by
      intro y hy
      unfold fGn at hy
      rw [hmk] at hy
      rcases hy with hy | hy | ⟨-, hy⟩ | hy
      · omega
      · omega
      · rcases hy with hy | ⟨-, hc, hy⟩ | ⟨-, hc, hy⟩
        · exact Or.inl hy
        · have h9 := hc.2.1
          rw [← hsd] at h9
          omega
        · have h9 := hc.2.1
          rw [← hsd] at h9
          omega
      · omega)
  exact ⟨p, fun _ => rfl, ⟨(fun q h => by cases h), fun q h => (by cases h), (fun f h => by cases h), (aAllc ⟨_, rfl, (fF_b (r := 1317) (by decide) rfl).mpr q0⟩ (fun f h => by cases h))⟩, [], List.mem_cons_self, fun f h => (by cases h)⟩
set_option maxRecDepth 8192 in
theorem rw_ruGKdhSE {K : Nat → Nat} {n : Nat} : aGho (fF K n) fa_T K n (fJX K n) ag_ruGKdhSE := by
  refine aGho_of ⟨rfl, rfl⟩ ?_
  intro p σ ρ hH hX hA hM
  have hG := aAG_of hA.1 (fun i e v he hv => (hA.2 i e v he hv).1)
  clear hA
  obtain ⟨v0, v1, v2, v3, v4, v5, v6, rfl, g0, g1, g2, g3, g4, g5, g6⟩ := fA_7 hG
  clear hG
  obtain ⟨x0, rfl, b0, d0⟩ := fG_ref (by decide) g0
  obtain ⟨x1, rfl, b1, d1⟩ := aG_int g1
  dsimp only at b1 d1
  obtain ⟨x2, rfl, b2, d2⟩ := aG_int g2
  dsimp only at b2 d2
  obtain ⟨x3, rfl, b3, d3⟩ := aG_int g3
  dsimp only at b3 d3
  obtain ⟨x4, rfl, b4, d4⟩ := aG_int g4
  dsimp only at b4 d4
  obtain ⟨x5, rfl, b5, d5⟩ := fG_ref (by decide) g5
  obtain ⟨x6, rfl, b6, d6⟩ := aG_int g6
  dsimp only at b6 d6
  obtain ⟨m1, m2, m3, m4⟩ := hM
  obtain ⟨a0, c0, fs0, w0, e1, s0, t0, e4⟩ := m1 (5, 2, 6) (List.mem_of_getElem? (i := 0) rfl)
  obtain rfl : x5 = a0 := Sum.inl.inj (Option.some.inj (Sum.inr.inj (Sum.inr.inj (Option.some.inj (show some (fR x5) = some _ from e1)))))
  obtain rfl : fI x6 = w0 := Option.some.inj (show some (fI x6) = some w0 from e4)
  clear e1 e4
  have f0 : fB K n p 1 [fR x5] σ := by
    obtain ⟨w, e6, e7⟩ := m4 (17, [5]) (List.mem_of_getElem? (i := 0) rfl)
    obtain rfl : [fR x5] = w := Option.some.inj (show some [fR x5] = some w from e6)
    exact (fF_b (r := 17) (by decide) rfl).mp e7
  have f1 : fB K n p 89 [fR x0, fI x1, fI x2, fI x3, fI x4] σ := by
    obtain ⟨w, e6, e7⟩ := m4 (1429, [0, 1, 2, 3, 4]) (List.mem_of_getElem? (i := 1) rfl)
    obtain rfl : [fR x0, fI x1, fI x2, fI x3, fI x4] = w := Option.some.inj (show some [fR x0, fI x1, fI x2, fI x3, fI x4] = some w from e6)
    exact (fF_b (r := 1429) (by decide) rfl).mp e7
  have f2 : fB K n p 36 [fI x3] σ := by
    obtain ⟨w, e6, e7⟩ := m4 (577, [3]) (List.mem_of_getElem? (i := 2) rfl)
    obtain rfl : [fI x3] = w := Option.some.inj (show some [fI x3] = some w from e6)
    exact (fF_b (r := 577) (by decide) rfl).mp e7
  clear m1 m2 m3 m4
  obtain ⟨a9_0, e9_0, h0, g0⟩ := f0
  cases e9_0
  obtain ⟨a9_1, lo9_1, hi9_1, r9_1, S1, C1, e9_1, T1, V1⟩ := (fL_o (by decide) (by decide)).mp f1
  cases e9_1
  obtain ⟨y1_0, y1_1, e8_1, eS1, eC1⟩ := T1
  cases e8_1
  subst eS1
  subst eC1
  obtain ⟨y2_0, e9_2, h2⟩ := f2
  cases e9_2
  have hmk : ((fq p).1 x3.toInt.toNat).toInt % 8 = 6 := by
    unfold fOw at h2
    rw [fNc] at h2
    rw [h2]
    omega
  have hF := fAt_of h0 s0
  have hsd := hF.2.1 x6 t0
  have q0 : fB K n (p) 82 [fR x0, fI x1, fI x2, fI x3, fI x4] σ := by
    refine (fL_o (by decide) (by decide)).mpr ⟨x0, x1, x2, _, _, _, rfl, (Or.inl ⟨x3, x4, rfl, rfl, rfl⟩), ?_⟩
    exact fCv_w V1 ((show _ = x1.toInt from rfl).trans (show x1.toInt = _ from rfl)) (by have e1 : fEc 89 = 0 := rfl; have e2 : fEc 82 = 0 := rfl; omega) (fun x h => Or.inr (Or.inr (Or.inl ⟨hmk, h⟩))) (by
      intro y hy
      unfold fGn at hy
      rw [hmk] at hy
      rcases hy with hy | hy | ⟨-, hy⟩ | hy
      · omega
      · omega
      · rcases hy with hy | ⟨-, hc, hy⟩ | ⟨-, hc, hy⟩
        · exact Or.inl hy
        · have h9 := hc.2.1
          rw [← hsd] at h9
          omega
        · have h9 := hc.2.1
          rw [← hsd] at h9
          omega
      · omega)
  exact ⟨p, fun _ => rfl, ⟨(fun q h => by cases h), fun q h => (by cases h), (fun f h => by cases h), (aAllc ⟨_, rfl, (fF_b (r := 1317) (by decide) rfl).mpr q0⟩ (fun f h => by cases h))⟩, [], List.mem_cons_self, fun f h => (by cases h)⟩
set_option maxRecDepth 8192 in
theorem rw_ruGCvSE {K : Nat → Nat} {n : Nat} : aGho (fF K n) fa_T K n (fJX K n) ag_ruGCvSE := by
  refine aGho_of ⟨rfl, rfl⟩ ?_
  intro p σ ρ hH hX hA hM
  have hG := aAG_of hA.1 (fun i e v he hv => (hA.2 i e v he hv).1)
  clear hA
  obtain ⟨v0, v1, v2, v3, v4, v5, v6, v7, v8, v9, rfl, g0, g1, g2, g3, g4, g5, g6, g7, g8, g9⟩ := fA_10 hG
  clear hG
  obtain ⟨x0, rfl, b0, d0⟩ := fG_ref (by decide) g0
  obtain ⟨x1, rfl, b1, d1⟩ := aG_int g1
  dsimp only at b1 d1
  obtain ⟨x2, rfl, b2, d2⟩ := aG_int g2
  dsimp only at b2 d2
  obtain ⟨x3, rfl, b3, d3⟩ := aG_int g3
  dsimp only at b3 d3
  obtain ⟨x4, rfl, b4, d4⟩ := aG_int g4
  dsimp only at b4 d4
  obtain ⟨x5, rfl, b5, d5⟩ := aG_int g5
  dsimp only at b5 d5
  obtain ⟨x6, rfl, b6, d6⟩ := fG_ref (by decide) g6
  obtain ⟨x7, rfl, b7, d7⟩ := aG_int g7
  dsimp only at b7 d7
  obtain ⟨x8, rfl, b8, d8⟩ := aG_int g8
  dsimp only at b8 d8
  obtain ⟨x9, rfl, b9, d9⟩ := aG_int g9
  dsimp only at b9 d9
  obtain ⟨m1, m2, m3, m4⟩ := hM
  obtain ⟨a0, c0, fs0, w0, e1, s0, t0, e4⟩ := m1 (6, 2, 9) (List.mem_of_getElem? (i := 0) rfl)
  obtain rfl : x6 = a0 := Sum.inl.inj (Option.some.inj (Sum.inr.inj (Sum.inr.inj (Option.some.inj (show some (fR x6) = some _ from e1)))))
  obtain rfl : fI x9 = w0 := Option.some.inj (show some (fI x9) = some w0 from e4)
  clear e1 e4
  have l0 : 0 ≤ (1 * x2.toInt + (-520 * x4.toInt + 0)) + -16 := by
    obtain ⟨z, e6, e7⟩ := m3 ([(2, 1), (4, -520)], -16) (List.mem_of_getElem? (i := 0) rfl)
    obtain rfl : (1 * x2.toInt + (-520 * x4.toInt + 0)) = z := Option.some.inj (show some (1 * x2.toInt + (-520 * x4.toInt + 0)) = some z from e6)
    exact e7
  have l1 : 0 ≤ (-1 * x2.toInt + (520 * x4.toInt + 0)) + 16 := by
    obtain ⟨z, e6, e7⟩ := m3 ([(2, -1), (4, 520)], 16) (List.mem_of_getElem? (i := 1) rfl)
    obtain rfl : (-1 * x2.toInt + (520 * x4.toInt + 0)) = z := Option.some.inj (show some (-1 * x2.toInt + (520 * x4.toInt + 0)) = some z from e6)
    exact e7
  have l2 : 0 ≤ (1 * x4.toInt + (-56 * x9.toInt + 0)) + -4 := by
    obtain ⟨z, e6, e7⟩ := m3 ([(4, 1), (9, -56)], -4) (List.mem_of_getElem? (i := 2) rfl)
    obtain rfl : (1 * x4.toInt + (-56 * x9.toInt + 0)) = z := Option.some.inj (show some (1 * x4.toInt + (-56 * x9.toInt + 0)) = some z from e6)
    exact e7
  have l3 : 0 ≤ (-1 * x4.toInt + (56 * x9.toInt + 0)) + 4 := by
    obtain ⟨z, e6, e7⟩ := m3 ([(4, -1), (9, 56)], 4) (List.mem_of_getElem? (i := 3) rfl)
    obtain rfl : (-1 * x4.toInt + (56 * x9.toInt + 0)) = z := Option.some.inj (show some (-1 * x4.toInt + (56 * x9.toInt + 0)) = some z from e6)
    exact e7
  have l4 : 0 ≤ (1 * x1.toInt + (-1 * x3.toInt + 0)) + 0 := by
    obtain ⟨z, e6, e7⟩ := m3 ([(1, 1), (3, -1)], 0) (List.mem_of_getElem? (i := 4) rfl)
    obtain rfl : (1 * x1.toInt + (-1 * x3.toInt + 0)) = z := Option.some.inj (show some (1 * x1.toInt + (-1 * x3.toInt + 0)) = some z from e6)
    exact e7
  have f0 : fB K n p 1 [fR x6] σ := by
    obtain ⟨w, e6, e7⟩ := m4 (17, [6]) (List.mem_of_getElem? (i := 0) rfl)
    obtain rfl : [fR x6] = w := Option.some.inj (show some [fR x6] = some w from e6)
    exact (fF_b (r := 17) (by decide) rfl).mp e7
  have f1 : fB K n p 89 [fR x0, fI x3, fI x1, fI x4, fI x5] σ := by
    obtain ⟨w, e6, e7⟩ := m4 (1429, [0, 3, 1, 4, 5]) (List.mem_of_getElem? (i := 1) rfl)
    obtain rfl : [fR x0, fI x3, fI x1, fI x4, fI x5] = w := Option.some.inj (show some [fR x0, fI x3, fI x1, fI x4, fI x5] = some w from e6)
    exact (fF_b (r := 1429) (by decide) rfl).mp e7
  have f2 : fB K n p 51 [fI x4] σ := by
    obtain ⟨w, e6, e7⟩ := m4 (817, [4]) (List.mem_of_getElem? (i := 2) rfl)
    obtain rfl : [fI x4] = w := Option.some.inj (show some [fI x4] = some w from e6)
    exact (fF_b (r := 817) (by decide) rfl).mp e7
  have f3 : fB K n p 40 [fI x4, fI x7] σ := by
    obtain ⟨w, e6, e7⟩ := m4 (642, [4, 7]) (List.mem_of_getElem? (i := 3) rfl)
    obtain rfl : [fI x4, fI x7] = w := Option.some.inj (show some [fI x4, fI x7] = some w from e6)
    exact (fF_b (r := 642) (by decide) rfl).mp e7
  have f4 : fB K n p 41 [fI x4, fI x8] σ := by
    obtain ⟨w, e6, e7⟩ := m4 (658, [4, 8]) (List.mem_of_getElem? (i := 4) rfl)
    obtain rfl : [fI x4, fI x8] = w := Option.some.inj (show some [fI x4, fI x8] = some w from e6)
    exact (fF_b (r := 658) (by decide) rfl).mp e7
  clear m1 m2 m3 m4
  obtain ⟨a9_0, e9_0, h0, g0⟩ := f0
  cases e9_0
  obtain ⟨a9_1, lo9_1, hi9_1, r9_1, S1, C1, e9_1, T1, V1⟩ := (fL_o (by decide) (by decide)).mp f1
  cases e9_1
  obtain ⟨y1_0, y1_1, e8_1, eS1, eC1⟩ := T1
  cases e8_1
  subst eS1
  subst eC1
  obtain ⟨y2_0, e8_2, h2⟩ := (fE_o (by decide)).mp f2
  cases e8_2
  obtain ⟨y3_0, y3_1, e9_3, h3⟩ := f3
  cases e9_3
  obtain ⟨y4_0, y4_1, e9_4, h4⟩ := f4
  cases e9_4
  have hF := fAt_of h0 s0
  have hsd := hF.2.1 x9 t0
  have q0 : fB K n (p) 90 [fR x0, fI x3, fI x1, fI x4, fI x5] (jup σ x0 (jsto (σ x0) x1.toNatClampNeg x2)) := by
    refine (fL_o (by decide) (by decide)).mpr ⟨x0, x3, x1, _, _, _, rfl, ⟨x4, x5, rfl, rfl, rfl⟩, ?_⟩
    exact fCv_st V1 (by rw [fNc]; have e1 : fEc 89 = 0 := rfl; omega) (by have e1 : fEc 89 = 0 := rfl; show x3.toInt ≤ _; omega) (by have e1 : fEc 89 = 0 := rfl; have e2 : fEc 90 = 1 := rfl; omega) (Or.inr (Or.inl ⟨trivial, ⟨by omega, by rw [← hsd]; omega, h2, by rw [h3]; omega, by rw [h4]; omega⟩, by omega⟩)) (by
      rintro y (hy | ⟨-, hc, hy⟩ | h)
      · exact Or.inl (Or.inl hy)
      · exact Or.inr (fI32 (by rw [hy]; omega))
      · exact h.1.elim)
  exact ⟨p, fun _ => rfl, ⟨(fun q h => by cases h), fun q h => (by cases h), (fun f h => by cases h), (aAllc ⟨_, rfl, fF_p (r := 1445) (by decide) (by decide) rfl q0⟩ (fun f h => by cases h))⟩, [], List.mem_cons_self, fun f h => (by cases h)⟩
set_option maxRecDepth 8192 in
theorem rw_ruGCwSE {K : Nat → Nat} {n : Nat} : aGho (fF K n) fa_T K n (fJX K n) ag_ruGCwSE := by
  refine aGho_of ⟨rfl, rfl⟩ ?_
  intro p σ ρ hH hX hA hM
  have hG := aAG_of hA.1 (fun i e v he hv => (hA.2 i e v he hv).1)
  clear hA
  obtain ⟨v0, v1, v2, v3, v4, v5, v6, v7, v8, v9, v10, rfl, g0, g1, g2, g3, g4, g5, g6, g7, g8, g9, g10⟩ := fA_11 hG
  clear hG
  obtain ⟨x0, rfl, b0, d0⟩ := fG_ref (by decide) g0
  obtain ⟨x1, rfl, b1, d1⟩ := aG_int g1
  dsimp only at b1 d1
  obtain ⟨x2, rfl, b2, d2⟩ := aG_int g2
  dsimp only at b2 d2
  obtain ⟨x3, rfl, b3, d3⟩ := aG_int g3
  dsimp only at b3 d3
  obtain ⟨x4, rfl, b4, d4⟩ := aG_int g4
  dsimp only at b4 d4
  obtain ⟨x5, rfl, b5, d5⟩ := aG_int g5
  dsimp only at b5 d5
  obtain ⟨x6, rfl, b6, d6⟩ := fG_ref (by decide) g6
  obtain ⟨x7, rfl, b7, d7⟩ := aG_int g7
  dsimp only at b7 d7
  obtain ⟨x8, rfl, b8, d8⟩ := aG_int g8
  dsimp only at b8 d8
  obtain ⟨x9, rfl, b9, d9⟩ := aG_int g9
  dsimp only at b9 d9
  obtain ⟨x10, rfl, b10, d10⟩ := aG_int g10
  dsimp only at b10 d10
  obtain ⟨m1, m2, m3, m4⟩ := hM
  obtain ⟨a0, c0, fs0, w0, e1, s0, t0, e4⟩ := m1 (6, 2, 10) (List.mem_of_getElem? (i := 0) rfl)
  obtain rfl : x6 = a0 := Sum.inl.inj (Option.some.inj (Sum.inr.inj (Sum.inr.inj (Option.some.inj (show some (fR x6) = some _ from e1)))))
  obtain rfl : fI x10 = w0 := Option.some.inj (show some (fI x10) = some w0 from e4)
  clear e1 e4
  have l0 : 0 ≤ (1 * x2.toInt + (-520 * x4.toInt + 0)) + 16 := by
    obtain ⟨z, e6, e7⟩ := m3 ([(2, 1), (4, -520)], 16) (List.mem_of_getElem? (i := 0) rfl)
    obtain rfl : (1 * x2.toInt + (-520 * x4.toInt + 0)) = z := Option.some.inj (show some (1 * x2.toInt + (-520 * x4.toInt + 0)) = some z from e6)
    exact e7
  have l1 : 0 ≤ (-1 * x2.toInt + (520 * x4.toInt + 0)) + -16 := by
    obtain ⟨z, e6, e7⟩ := m3 ([(2, -1), (4, 520)], -16) (List.mem_of_getElem? (i := 1) rfl)
    obtain rfl : (-1 * x2.toInt + (520 * x4.toInt + 0)) = z := Option.some.inj (show some (-1 * x2.toInt + (520 * x4.toInt + 0)) = some z from e6)
    exact e7
  have l2 : 0 ≤ (1 * x4.toInt + (-56 * x10.toInt + 0)) + -4 := by
    obtain ⟨z, e6, e7⟩ := m3 ([(4, 1), (10, -56)], -4) (List.mem_of_getElem? (i := 2) rfl)
    obtain rfl : (1 * x4.toInt + (-56 * x10.toInt + 0)) = z := Option.some.inj (show some (1 * x4.toInt + (-56 * x10.toInt + 0)) = some z from e6)
    exact e7
  have l3 : 0 ≤ (-1 * x4.toInt + (56 * x10.toInt + 0)) + 4 := by
    obtain ⟨z, e6, e7⟩ := m3 ([(4, -1), (10, 56)], 4) (List.mem_of_getElem? (i := 3) rfl)
    obtain rfl : (-1 * x4.toInt + (56 * x10.toInt + 0)) = z := Option.some.inj (show some (-1 * x4.toInt + (56 * x10.toInt + 0)) = some z from e6)
    exact e7
  have l4 : 0 ≤ (1 * x1.toInt + (-1 * x3.toInt + 0)) + 0 := by
    obtain ⟨z, e6, e7⟩ := m3 ([(1, 1), (3, -1)], 0) (List.mem_of_getElem? (i := 4) rfl)
    obtain rfl : (1 * x1.toInt + (-1 * x3.toInt + 0)) = z := Option.some.inj (show some (1 * x1.toInt + (-1 * x3.toInt + 0)) = some z from e6)
    exact e7
  have f0 : fB K n p 1 [fR x6] σ := by
    obtain ⟨w, e6, e7⟩ := m4 (17, [6]) (List.mem_of_getElem? (i := 0) rfl)
    obtain rfl : [fR x6] = w := Option.some.inj (show some [fR x6] = some w from e6)
    exact (fF_b (r := 17) (by decide) rfl).mp e7
  have f1 : fB K n p 91 [fR x0, fI x3, fI x1, fI x4, fI x5] σ := by
    obtain ⟨w, e6, e7⟩ := m4 (1461, [0, 3, 1, 4, 5]) (List.mem_of_getElem? (i := 1) rfl)
    obtain rfl : [fR x0, fI x3, fI x1, fI x4, fI x5] = w := Option.some.inj (show some [fR x0, fI x3, fI x1, fI x4, fI x5] = some w from e6)
    exact (fF_b (r := 1461) (by decide) rfl).mp e7
  have f2 : fB K n p 53 [fI x4] σ := by
    obtain ⟨w, e6, e7⟩ := m4 (849, [4]) (List.mem_of_getElem? (i := 2) rfl)
    obtain rfl : [fI x4] = w := Option.some.inj (show some [fI x4] = some w from e6)
    exact (fF_b (r := 849) (by decide) rfl).mp e7
  have f3 : fB K n p 42 [fI x4, fI x7] σ := by
    obtain ⟨w, e6, e7⟩ := m4 (674, [4, 7]) (List.mem_of_getElem? (i := 3) rfl)
    obtain rfl : [fI x4, fI x7] = w := Option.some.inj (show some [fI x4, fI x7] = some w from e6)
    exact (fF_b (r := 674) (by decide) rfl).mp e7
  have f4 : fB K n p 43 [fI x4, fI x8] σ := by
    obtain ⟨w, e6, e7⟩ := m4 (690, [4, 8]) (List.mem_of_getElem? (i := 4) rfl)
    obtain rfl : [fI x4, fI x8] = w := Option.some.inj (show some [fI x4, fI x8] = some w from e6)
    exact (fF_b (r := 690) (by decide) rfl).mp e7
  have f5 : fB K n p 55 [fI x4, fI x9] σ := by
    obtain ⟨w, e6, e7⟩ := m4 (882, [4, 9]) (List.mem_of_getElem? (i := 5) rfl)
    obtain rfl : [fI x4, fI x9] = w := Option.some.inj (show some [fI x4, fI x9] = some w from e6)
    exact (fF_b (r := 882) (by decide) rfl).mp e7
  clear m1 m2 m3 m4
  obtain ⟨a9_0, e9_0, h0, g0⟩ := f0
  cases e9_0
  obtain ⟨a9_1, lo9_1, hi9_1, r9_1, S1, C1, e9_1, T1, V1⟩ := (fL_o (by decide) (by decide)).mp f1
  cases e9_1
  obtain ⟨y1_0, y1_1, e8_1, eS1, eC1⟩ := T1
  cases e8_1
  subst eS1
  subst eC1
  obtain ⟨y2_0, e8_2, h2⟩ := (fE_o (by decide)).mp f2
  cases e8_2
  obtain ⟨y3_0, y3_1, e9_3, h3⟩ := f3
  cases e9_3
  obtain ⟨y4_0, y4_1, e9_4, h4⟩ := f4
  cases e9_4
  obtain ⟨y5_0, y5_1, e8_5, h5⟩ := (fE_o (by decide)).mp f5
  cases e8_5
  have hF := fAt_of h0 s0
  have hsd := hF.2.1 x10 t0
  have q0 : fB K n (p) 92 [fR x0, fI x3, fI x1, fI x4, fI x5] (jup σ x0 (jsto (σ x0) x1.toNatClampNeg x2)) := by
    refine (fL_o (by decide) (by decide)).mpr ⟨x0, x3, x1, _, _, _, rfl, ⟨x4, x5, rfl, rfl, rfl⟩, ?_⟩
    exact fCv_st V1 (by rw [fNc]; have e1 : fEc 91 = 0 := rfl; omega) (by have e1 : fEc 91 = 0 := rfl; show x3.toInt ≤ _; omega) (by have e1 : fEc 91 = 0 := rfl; have e2 : fEc 92 = 1 := rfl; omega) (Or.inr (Or.inr ⟨trivial, ⟨by omega, by rw [← hsd]; omega, h2, by rw [h3]; omega, by rw [h4]; omega, by rw [h5]; omega⟩, by omega⟩)) (by
      rintro y (hy | hy | ⟨-, hc, hy⟩)
      · exact Or.inl (Or.inl hy)
      · exact Or.inl (Or.inr (Or.inl hy))
      · exact Or.inr (fI32 (by rw [hy]; omega)))
  exact ⟨p, fun _ => rfl, ⟨(fun q h => by cases h), fun q h => (by cases h), (fun f h => by cases h), (aAllc ⟨_, rfl, fF_p (r := 1477) (by decide) (by decide) rfl q0⟩ (fun f h => by cases h))⟩, [], List.mem_cons_self, fun f h => (by cases h)⟩
set_option maxRecDepth 8192 in
theorem rw_ruGCnSE {K : Nat → Nat} {n : Nat} : aGho (fF K n) fa_T K n (fJX K n) ag_ruGCnSE := by
  refine aGho_of ⟨rfl, rfl⟩ ?_
  intro p σ ρ hH hX hA hM
  have hG := aAG_of hA.1 (fun i e v he hv => (hA.2 i e v he hv).1)
  clear hA
  obtain ⟨v0, v1, v2, v3, v4, v5, rfl, g0, g1, g2, g3, g4, g5⟩ := fA_6 hG
  clear hG
  obtain ⟨x0, rfl, b0, d0⟩ := fG_ref (by decide) g0
  obtain ⟨x1, rfl, b1, d1⟩ := aG_int g1
  dsimp only at b1 d1
  obtain ⟨x2, rfl, b2, d2⟩ := aG_int g2
  dsimp only at b2 d2
  obtain ⟨x3, rfl, b3, d3⟩ := aG_int g3
  dsimp only at b3 d3
  obtain ⟨x4, rfl, b4, d4⟩ := aG_int g4
  dsimp only at b4 d4
  obtain ⟨x5, rfl, b5, d5⟩ := aG_int g5
  dsimp only at b5 d5
  obtain ⟨m1, m2, m3, m4⟩ := hM
  have l0 : 0 ≤ (1 * x5.toInt + (-1 * x2.toInt + 0)) + -1 := by
    obtain ⟨z, e6, e7⟩ := m3 ([(5, 1), (2, -1)], -1) (List.mem_of_getElem? (i := 0) rfl)
    obtain rfl : (1 * x5.toInt + (-1 * x2.toInt + 0)) = z := Option.some.inj (show some (1 * x5.toInt + (-1 * x2.toInt + 0)) = some z from e6)
    exact e7
  have l1 : 0 ≤ (-1 * x5.toInt + (1 * x2.toInt + 0)) + 1 := by
    obtain ⟨z, e6, e7⟩ := m3 ([(5, -1), (2, 1)], 1) (List.mem_of_getElem? (i := 1) rfl)
    obtain rfl : (-1 * x5.toInt + (1 * x2.toInt + 0)) = z := Option.some.inj (show some (-1 * x5.toInt + (1 * x2.toInt + 0)) = some z from e6)
    exact e7
  have f0 : fB K n p 90 [fR x0, fI x1, fI x2, fI x3, fI x4] σ := by
    obtain ⟨w, e6, e7⟩ := m4 (1445, [0, 1, 2, 3, 4]) (List.mem_of_getElem? (i := 0) rfl)
    obtain rfl : [fR x0, fI x1, fI x2, fI x3, fI x4] = w := Option.some.inj (show some [fR x0, fI x1, fI x2, fI x3, fI x4] = some w from e6)
    exact (fF_b (r := 1445) (by decide) rfl).mp e7
  clear m1 m2 m3 m4
  obtain ⟨a9_0, lo9_0, hi9_0, r9_0, S0, C0, e9_0, T0, V0⟩ := (fL_o (by decide) (by decide)).mp f0
  cases e9_0
  obtain ⟨y0_0, y0_1, e8_0, eS0, eC0⟩ := T0
  cases e8_0
  subst eS0
  subst eC0
  have q0 : fB K n (p) 91 [fR x0, fI x1, fI x5, fI x3, fI x4] σ := by
    refine (fL_o (by decide) (by decide)).mpr ⟨x0, x1, x5, _, _, _, rfl, ⟨x3, x4, rfl, rfl, rfl⟩, ?_⟩
    exact fCv_w V0 ((show _ = x1.toInt from rfl).trans (show x1.toInt = _ from rfl)) (by have e1 : fEc 90 = 1 := rfl; have e2 : fEc 91 = 0 := rfl; omega) (fun x h => h) (by
      exact fun x h => h)
  exact ⟨p, fun _ => rfl, ⟨(fun q h => by cases h), fun q h => (by cases h), (fun f h => by cases h), (aAllc ⟨_, rfl, (fF_b (r := 1461) (by decide) rfl).mpr q0⟩ (fun f h => by cases h))⟩, [], List.mem_cons_self, fun f h => (by cases h)⟩
set_option maxRecDepth 8192 in
theorem rw_ruGDnSE {K : Nat → Nat} {n : Nat} : aGho (fF K n) fa_T K n (fJX K n) ag_ruGDnSE := by
  refine aGho_of ⟨rfl, rfl⟩ ?_
  intro p σ ρ hH hX hA hM
  have hG := aAG_of hA.1 (fun i e v he hv => (hA.2 i e v he hv).1)
  clear hA
  obtain ⟨v0, v1, v2, v3, v4, v5, rfl, g0, g1, g2, g3, g4, g5⟩ := fA_6 hG
  clear hG
  obtain ⟨x0, rfl, b0, d0⟩ := fG_ref (by decide) g0
  obtain ⟨x1, rfl, b1, d1⟩ := aG_int g1
  dsimp only at b1 d1
  obtain ⟨x2, rfl, b2, d2⟩ := aG_int g2
  dsimp only at b2 d2
  obtain ⟨x3, rfl, b3, d3⟩ := aG_int g3
  dsimp only at b3 d3
  obtain ⟨x4, rfl, b4, d4⟩ := aG_int g4
  dsimp only at b4 d4
  obtain ⟨x5, rfl, b5, d5⟩ := aG_int g5
  dsimp only at b5 d5
  obtain ⟨m1, m2, m3, m4⟩ := hM
  have l0 : 0 ≤ (1 * x5.toInt + (-1 * x2.toInt + 0)) + -1 := by
    obtain ⟨z, e6, e7⟩ := m3 ([(5, 1), (2, -1)], -1) (List.mem_of_getElem? (i := 0) rfl)
    obtain rfl : (1 * x5.toInt + (-1 * x2.toInt + 0)) = z := Option.some.inj (show some (1 * x5.toInt + (-1 * x2.toInt + 0)) = some z from e6)
    exact e7
  have l1 : 0 ≤ (-1 * x5.toInt + (1 * x2.toInt + 0)) + 1 := by
    obtain ⟨z, e6, e7⟩ := m3 ([(5, -1), (2, 1)], 1) (List.mem_of_getElem? (i := 1) rfl)
    obtain rfl : (-1 * x5.toInt + (1 * x2.toInt + 0)) = z := Option.some.inj (show some (-1 * x5.toInt + (1 * x2.toInt + 0)) = some z from e6)
    exact e7
  have f0 : fB K n p 92 [fR x0, fI x1, fI x2, fI x3, fI x4] σ := by
    obtain ⟨w, e6, e7⟩ := m4 (1477, [0, 1, 2, 3, 4]) (List.mem_of_getElem? (i := 0) rfl)
    obtain rfl : [fR x0, fI x1, fI x2, fI x3, fI x4] = w := Option.some.inj (show some [fR x0, fI x1, fI x2, fI x3, fI x4] = some w from e6)
    exact (fF_b (r := 1477) (by decide) rfl).mp e7
  have f1 : fB K n p 36 [fI x3] σ := by
    obtain ⟨w, e6, e7⟩ := m4 (577, [3]) (List.mem_of_getElem? (i := 1) rfl)
    obtain rfl : [fI x3] = w := Option.some.inj (show some [fI x3] = some w from e6)
    exact (fF_b (r := 577) (by decide) rfl).mp e7
  clear m1 m2 m3 m4
  obtain ⟨a9_0, lo9_0, hi9_0, r9_0, S0, C0, e9_0, T0, V0⟩ := (fL_o (by decide) (by decide)).mp f0
  cases e9_0
  obtain ⟨y0_0, y0_1, e8_0, eS0, eC0⟩ := T0
  cases e8_0
  subst eS0
  subst eC0
  obtain ⟨y1_0, e9_1, h1⟩ := f1
  cases e9_1
  have hmk : ((fq p).1 x3.toInt.toNat).toInt % 8 = 6 := by
    unfold fOw at h1
    rw [fNc] at h1
    rw [h1]
    omega
  have q0 : fB K n (p) 82 [fR x0, fI x1, fI x5, fI x3, fI x4] σ := by
    refine (fL_o (by decide) (by decide)).mpr ⟨x0, x1, x5, _, _, _, rfl, (Or.inl ⟨x3, x4, rfl, rfl, rfl⟩), ?_⟩
    exact fCv_w V0 ((show _ = x1.toInt from rfl).trans (show x1.toInt = _ from rfl)) (by have e1 : fEc 92 = 1 := rfl; have e2 : fEc 82 = 0 := rfl; omega) (fun x h => Or.inr (Or.inr (Or.inl ⟨hmk, h⟩))) (by
      intro y hy
      unfold fGn at hy
      rw [hmk] at hy
      rcases hy with hy | hy | ⟨-, hy⟩ | hy
      · omega
      · omega
      · exact hy
      · omega)
  exact ⟨p, fun _ => rfl, ⟨(fun q h => by cases h), fun q h => (by cases h), (fun f h => by cases h), (aAllc ⟨_, rfl, (fF_b (r := 1317) (by decide) rfl).mpr q0⟩ (fun f h => by cases h))⟩, [], List.mem_cons_self, fun f h => (by cases h)⟩
set_option maxRecDepth 8192 in
theorem rw_ruGC0SE {K : Nat → Nat} {n : Nat} : aGho (fF K n) fa_T K n (fJX K n) ag_ruGC0SE := by
  refine aGho_of ⟨rfl, rfl⟩ ?_
  intro p σ ρ hH hX hA hM
  have hG := aAG_of hA.1 (fun i e v he hv => (hA.2 i e v he hv).1)
  clear hA
  obtain ⟨v0, v1, v2, v3, v4, rfl, g0, g1, g2, g3, g4⟩ := fA_5 hG
  clear hG
  obtain ⟨x0, rfl, b0, d0⟩ := fG_ref (by decide) g0
  obtain ⟨x1, rfl, b1, d1⟩ := aG_int g1
  dsimp only at b1 d1
  obtain ⟨x2, rfl, b2, d2⟩ := aG_int g2
  dsimp only at b2 d2
  obtain ⟨x3, rfl, b3, d3⟩ := aG_int g3
  dsimp only at b3 d3
  obtain ⟨x4, rfl, b4, d4⟩ := aG_int g4
  dsimp only at b4 d4
  obtain ⟨m1, m2, m3, m4⟩ := hM
  have f0 : fB K n p 89 [fR x0, fI x1, fI x2, fI x3, fI x4] σ := by
    obtain ⟨w, e6, e7⟩ := m4 (1429, [0, 1, 2, 3, 4]) (List.mem_of_getElem? (i := 0) rfl)
    obtain rfl : [fR x0, fI x1, fI x2, fI x3, fI x4] = w := Option.some.inj (show some [fR x0, fI x1, fI x2, fI x3, fI x4] = some w from e6)
    exact (fF_b (r := 1429) (by decide) rfl).mp e7
  have f1 : fB K n p 52 [fI x3] σ := by
    obtain ⟨w, e6, e7⟩ := m4 (833, [3]) (List.mem_of_getElem? (i := 1) rfl)
    obtain rfl : [fI x3] = w := Option.some.inj (show some [fI x3] = some w from e6)
    exact (fF_b (r := 833) (by decide) rfl).mp e7
  clear m1 m2 m3 m4
  obtain ⟨a9_0, lo9_0, hi9_0, r9_0, S0, C0, e9_0, T0, V0⟩ := (fL_o (by decide) (by decide)).mp f0
  cases e9_0
  obtain ⟨y0_0, y0_1, e8_0, eS0, eC0⟩ := T0
  cases e8_0
  subst eS0
  subst eC0
  obtain ⟨y1_0, e8_1, h1⟩ := (fE_o (by decide)).mp f1
  cases e8_1
  have q0 : fB K n (p) 91 [fR x0, fI x1, fI x2, fI x3, fI x4] σ := by
    refine (fL_o (by decide) (by decide)).mpr ⟨x0, x1, x2, _, _, _, rfl, ⟨x3, x4, rfl, rfl, rfl⟩, ?_⟩
    exact fCv_w V0 ((show _ = x1.toInt from rfl).trans (show x1.toInt = _ from rfl)) (by have e1 : fEc 89 = 0 := rfl; have e2 : fEc 91 = 0 := rfl; omega) (fun x h => h) (by
      rintro y (hy | ⟨-, hc, hy⟩ | h)
      · exact Or.inl hy
      · exact absurd hc.2.2.1 h1
      · exact h.1.elim)
  exact ⟨p, fun _ => rfl, ⟨(fun q h => by cases h), fun q h => (by cases h), (fun f h => by cases h), (aAllc ⟨_, rfl, (fF_b (r := 1461) (by decide) rfl).mpr q0⟩ (fun f h => by cases h))⟩, [], List.mem_cons_self, fun f h => (by cases h)⟩
set_option maxRecDepth 8192 in
theorem rw_ruGC1SE {K : Nat → Nat} {n : Nat} : aGho (fF K n) fa_T K n (fJX K n) ag_ruGC1SE := by
  refine aGho_of ⟨rfl, rfl⟩ ?_
  intro p σ ρ hH hX hA hM
  have hG := aAG_of hA.1 (fun i e v he hv => (hA.2 i e v he hv).1)
  clear hA
  obtain ⟨v0, v1, v2, v3, v4, v5, rfl, g0, g1, g2, g3, g4, g5⟩ := fA_6 hG
  clear hG
  obtain ⟨x0, rfl, b0, d0⟩ := fG_ref (by decide) g0
  obtain ⟨x1, rfl, b1, d1⟩ := aG_int g1
  dsimp only at b1 d1
  obtain ⟨x2, rfl, b2, d2⟩ := aG_int g2
  dsimp only at b2 d2
  obtain ⟨x3, rfl, b3, d3⟩ := aG_int g3
  dsimp only at b3 d3
  obtain ⟨x4, rfl, b4, d4⟩ := aG_int g4
  dsimp only at b4 d4
  obtain ⟨x5, rfl, b5, d5⟩ := aG_int g5
  dsimp only at b5 d5
  obtain ⟨m1, m2, m3, m4⟩ := hM
  have f0 : fB K n p 89 [fR x0, fI x1, fI x2, fI x3, fI x4] σ := by
    obtain ⟨w, e6, e7⟩ := m4 (1429, [0, 1, 2, 3, 4]) (List.mem_of_getElem? (i := 0) rfl)
    obtain rfl : [fR x0, fI x1, fI x2, fI x3, fI x4] = w := Option.some.inj (show some [fR x0, fI x1, fI x2, fI x3, fI x4] = some w from e6)
    exact (fF_b (r := 1429) (by decide) rfl).mp e7
  have f1 : fB K n p 40 [fI x3, fI x5] σ := by
    obtain ⟨w, e6, e7⟩ := m4 (642, [3, 5]) (List.mem_of_getElem? (i := 1) rfl)
    obtain rfl : [fI x3, fI x5] = w := Option.some.inj (show some [fI x3, fI x5] = some w from e6)
    exact (fF_b (r := 642) (by decide) rfl).mp e7
  clear m1 m2 m3 m4
  obtain ⟨a9_0, lo9_0, hi9_0, r9_0, S0, C0, e9_0, T0, V0⟩ := (fL_o (by decide) (by decide)).mp f0
  cases e9_0
  obtain ⟨y0_0, y0_1, e8_0, eS0, eC0⟩ := T0
  cases e8_0
  subst eS0
  subst eC0
  obtain ⟨y1_0, y1_1, e9_1, h1⟩ := f1
  cases e9_1
  have q0 : fB K n (p) 91 [fR x0, fI x1, fI x2, fI x3, fI x4] σ := by
    refine (fL_o (by decide) (by decide)).mpr ⟨x0, x1, x2, _, _, _, rfl, ⟨x3, x4, rfl, rfl, rfl⟩, ?_⟩
    exact fCv_w V0 ((show _ = x1.toInt from rfl).trans (show x1.toInt = _ from rfl)) (by have e1 : fEc 89 = 0 := rfl; have e2 : fEc 91 = 0 := rfl; omega) (fun x h => h) (by
      rintro y (hy | ⟨-, hc, hy⟩ | h)
      · exact Or.inl hy
      · exact absurd hc.2.2.2.1 (by rw [h1]; omega)
      · exact h.1.elim)
  exact ⟨p, fun _ => rfl, ⟨(fun q h => by cases h), fun q h => (by cases h), (fun f h => by cases h), (aAllc ⟨_, rfl, (fF_b (r := 1461) (by decide) rfl).mpr q0⟩ (fun f h => by cases h))⟩, [], List.mem_cons_self, fun f h => (by cases h)⟩
set_option maxRecDepth 8192 in
theorem rw_ruGC2SE {K : Nat → Nat} {n : Nat} : aGho (fF K n) fa_T K n (fJX K n) ag_ruGC2SE := by
  refine aGho_of ⟨rfl, rfl⟩ ?_
  intro p σ ρ hH hX hA hM
  have hG := aAG_of hA.1 (fun i e v he hv => (hA.2 i e v he hv).1)
  clear hA
  obtain ⟨v0, v1, v2, v3, v4, v5, rfl, g0, g1, g2, g3, g4, g5⟩ := fA_6 hG
  clear hG
  obtain ⟨x0, rfl, b0, d0⟩ := fG_ref (by decide) g0
  obtain ⟨x1, rfl, b1, d1⟩ := aG_int g1
  dsimp only at b1 d1
  obtain ⟨x2, rfl, b2, d2⟩ := aG_int g2
  dsimp only at b2 d2
  obtain ⟨x3, rfl, b3, d3⟩ := aG_int g3
  dsimp only at b3 d3
  obtain ⟨x4, rfl, b4, d4⟩ := aG_int g4
  dsimp only at b4 d4
  obtain ⟨x5, rfl, b5, d5⟩ := aG_int g5
  dsimp only at b5 d5
  obtain ⟨m1, m2, m3, m4⟩ := hM
  have f0 : fB K n p 89 [fR x0, fI x1, fI x2, fI x3, fI x4] σ := by
    obtain ⟨w, e6, e7⟩ := m4 (1429, [0, 1, 2, 3, 4]) (List.mem_of_getElem? (i := 0) rfl)
    obtain rfl : [fR x0, fI x1, fI x2, fI x3, fI x4] = w := Option.some.inj (show some [fR x0, fI x1, fI x2, fI x3, fI x4] = some w from e6)
    exact (fF_b (r := 1429) (by decide) rfl).mp e7
  have f1 : fB K n p 41 [fI x3, fI x5] σ := by
    obtain ⟨w, e6, e7⟩ := m4 (658, [3, 5]) (List.mem_of_getElem? (i := 1) rfl)
    obtain rfl : [fI x3, fI x5] = w := Option.some.inj (show some [fI x3, fI x5] = some w from e6)
    exact (fF_b (r := 658) (by decide) rfl).mp e7
  clear m1 m2 m3 m4
  obtain ⟨a9_0, lo9_0, hi9_0, r9_0, S0, C0, e9_0, T0, V0⟩ := (fL_o (by decide) (by decide)).mp f0
  cases e9_0
  obtain ⟨y0_0, y0_1, e8_0, eS0, eC0⟩ := T0
  cases e8_0
  subst eS0
  subst eC0
  obtain ⟨y1_0, y1_1, e9_1, h1⟩ := f1
  cases e9_1
  have q0 : fB K n (p) 91 [fR x0, fI x1, fI x2, fI x3, fI x4] σ := by
    refine (fL_o (by decide) (by decide)).mpr ⟨x0, x1, x2, _, _, _, rfl, ⟨x3, x4, rfl, rfl, rfl⟩, ?_⟩
    exact fCv_w V0 ((show _ = x1.toInt from rfl).trans (show x1.toInt = _ from rfl)) (by have e1 : fEc 89 = 0 := rfl; have e2 : fEc 91 = 0 := rfl; omega) (fun x h => h) (by
      rintro y (hy | ⟨-, hc, hy⟩ | h)
      · exact Or.inl hy
      · exact absurd hc.2.2.2.2 (by rw [h1]; omega)
      · exact h.1.elim)
  exact ⟨p, fun _ => rfl, ⟨(fun q h => by cases h), fun q h => (by cases h), (fun f h => by cases h), (aAllc ⟨_, rfl, (fF_b (r := 1461) (by decide) rfl).mpr q0⟩ (fun f h => by cases h))⟩, [], List.mem_cons_self, fun f h => (by cases h)⟩
set_option maxRecDepth 8192 in
theorem rw_ruGD0SE {K : Nat → Nat} {n : Nat} : aGho (fF K n) fa_T K n (fJX K n) ag_ruGD0SE := by
  refine aGho_of ⟨rfl, rfl⟩ ?_
  intro p σ ρ hH hX hA hM
  have hG := aAG_of hA.1 (fun i e v he hv => (hA.2 i e v he hv).1)
  clear hA
  obtain ⟨v0, v1, v2, v3, v4, rfl, g0, g1, g2, g3, g4⟩ := fA_5 hG
  clear hG
  obtain ⟨x0, rfl, b0, d0⟩ := fG_ref (by decide) g0
  obtain ⟨x1, rfl, b1, d1⟩ := aG_int g1
  dsimp only at b1 d1
  obtain ⟨x2, rfl, b2, d2⟩ := aG_int g2
  dsimp only at b2 d2
  obtain ⟨x3, rfl, b3, d3⟩ := aG_int g3
  dsimp only at b3 d3
  obtain ⟨x4, rfl, b4, d4⟩ := aG_int g4
  dsimp only at b4 d4
  obtain ⟨m1, m2, m3, m4⟩ := hM
  have f0 : fB K n p 91 [fR x0, fI x1, fI x2, fI x3, fI x4] σ := by
    obtain ⟨w, e6, e7⟩ := m4 (1461, [0, 1, 2, 3, 4]) (List.mem_of_getElem? (i := 0) rfl)
    obtain rfl : [fR x0, fI x1, fI x2, fI x3, fI x4] = w := Option.some.inj (show some [fR x0, fI x1, fI x2, fI x3, fI x4] = some w from e6)
    exact (fF_b (r := 1461) (by decide) rfl).mp e7
  have f1 : fB K n p 54 [fI x3] σ := by
    obtain ⟨w, e6, e7⟩ := m4 (865, [3]) (List.mem_of_getElem? (i := 1) rfl)
    obtain rfl : [fI x3] = w := Option.some.inj (show some [fI x3] = some w from e6)
    exact (fF_b (r := 865) (by decide) rfl).mp e7
  have f2 : fB K n p 36 [fI x3] σ := by
    obtain ⟨w, e6, e7⟩ := m4 (577, [3]) (List.mem_of_getElem? (i := 2) rfl)
    obtain rfl : [fI x3] = w := Option.some.inj (show some [fI x3] = some w from e6)
    exact (fF_b (r := 577) (by decide) rfl).mp e7
  clear m1 m2 m3 m4
  obtain ⟨a9_0, lo9_0, hi9_0, r9_0, S0, C0, e9_0, T0, V0⟩ := (fL_o (by decide) (by decide)).mp f0
  cases e9_0
  obtain ⟨y0_0, y0_1, e8_0, eS0, eC0⟩ := T0
  cases e8_0
  subst eS0
  subst eC0
  obtain ⟨y1_0, e8_1, h1⟩ := (fE_o (by decide)).mp f1
  cases e8_1
  obtain ⟨y2_0, e9_2, h2⟩ := f2
  cases e9_2
  have hmk : ((fq p).1 x3.toInt.toNat).toInt % 8 = 6 := by
    unfold fOw at h2
    rw [fNc] at h2
    rw [h2]
    omega
  have q0 : fB K n (p) 82 [fR x0, fI x1, fI x2, fI x3, fI x4] σ := by
    refine (fL_o (by decide) (by decide)).mpr ⟨x0, x1, x2, _, _, _, rfl, (Or.inl ⟨x3, x4, rfl, rfl, rfl⟩), ?_⟩
    exact fCv_w V0 ((show _ = x1.toInt from rfl).trans (show x1.toInt = _ from rfl)) (by have e1 : fEc 91 = 0 := rfl; have e2 : fEc 82 = 0 := rfl; omega) (fun x h => Or.inr (Or.inr (Or.inl ⟨hmk, h⟩))) (by
      intro y hy
      unfold fGn at hy
      rw [hmk] at hy
      rcases hy with hy | hy | ⟨-, hy⟩ | hy
      · omega
      · omega
      · rcases hy with hy | hy | ⟨-, hc, hy⟩
        · exact Or.inl hy
        · exact Or.inr (Or.inl hy)
        · exact absurd hc.2.2.1 h1
      · omega)
  exact ⟨p, fun _ => rfl, ⟨(fun q h => by cases h), fun q h => (by cases h), (fun f h => by cases h), (aAllc ⟨_, rfl, (fF_b (r := 1317) (by decide) rfl).mpr q0⟩ (fun f h => by cases h))⟩, [], List.mem_cons_self, fun f h => (by cases h)⟩
set_option maxRecDepth 8192 in
theorem rw_ruGD1SE {K : Nat → Nat} {n : Nat} : aGho (fF K n) fa_T K n (fJX K n) ag_ruGD1SE := by
  refine aGho_of ⟨rfl, rfl⟩ ?_
  intro p σ ρ hH hX hA hM
  have hG := aAG_of hA.1 (fun i e v he hv => (hA.2 i e v he hv).1)
  clear hA
  obtain ⟨v0, v1, v2, v3, v4, v5, rfl, g0, g1, g2, g3, g4, g5⟩ := fA_6 hG
  clear hG
  obtain ⟨x0, rfl, b0, d0⟩ := fG_ref (by decide) g0
  obtain ⟨x1, rfl, b1, d1⟩ := aG_int g1
  dsimp only at b1 d1
  obtain ⟨x2, rfl, b2, d2⟩ := aG_int g2
  dsimp only at b2 d2
  obtain ⟨x3, rfl, b3, d3⟩ := aG_int g3
  dsimp only at b3 d3
  obtain ⟨x4, rfl, b4, d4⟩ := aG_int g4
  dsimp only at b4 d4
  obtain ⟨x5, rfl, b5, d5⟩ := aG_int g5
  dsimp only at b5 d5
  obtain ⟨m1, m2, m3, m4⟩ := hM
  have f0 : fB K n p 91 [fR x0, fI x1, fI x2, fI x3, fI x4] σ := by
    obtain ⟨w, e6, e7⟩ := m4 (1461, [0, 1, 2, 3, 4]) (List.mem_of_getElem? (i := 0) rfl)
    obtain rfl : [fR x0, fI x1, fI x2, fI x3, fI x4] = w := Option.some.inj (show some [fR x0, fI x1, fI x2, fI x3, fI x4] = some w from e6)
    exact (fF_b (r := 1461) (by decide) rfl).mp e7
  have f1 : fB K n p 42 [fI x3, fI x5] σ := by
    obtain ⟨w, e6, e7⟩ := m4 (674, [3, 5]) (List.mem_of_getElem? (i := 1) rfl)
    obtain rfl : [fI x3, fI x5] = w := Option.some.inj (show some [fI x3, fI x5] = some w from e6)
    exact (fF_b (r := 674) (by decide) rfl).mp e7
  have f2 : fB K n p 36 [fI x3] σ := by
    obtain ⟨w, e6, e7⟩ := m4 (577, [3]) (List.mem_of_getElem? (i := 2) rfl)
    obtain rfl : [fI x3] = w := Option.some.inj (show some [fI x3] = some w from e6)
    exact (fF_b (r := 577) (by decide) rfl).mp e7
  clear m1 m2 m3 m4
  obtain ⟨a9_0, lo9_0, hi9_0, r9_0, S0, C0, e9_0, T0, V0⟩ := (fL_o (by decide) (by decide)).mp f0
  cases e9_0
  obtain ⟨y0_0, y0_1, e8_0, eS0, eC0⟩ := T0
  cases e8_0
  subst eS0
  subst eC0
  obtain ⟨y1_0, y1_1, e9_1, h1⟩ := f1
  cases e9_1
  obtain ⟨y2_0, e9_2, h2⟩ := f2
  cases e9_2
  have hmk : ((fq p).1 x3.toInt.toNat).toInt % 8 = 6 := by
    unfold fOw at h2
    rw [fNc] at h2
    rw [h2]
    omega
  have q0 : fB K n (p) 82 [fR x0, fI x1, fI x2, fI x3, fI x4] σ := by
    refine (fL_o (by decide) (by decide)).mpr ⟨x0, x1, x2, _, _, _, rfl, (Or.inl ⟨x3, x4, rfl, rfl, rfl⟩), ?_⟩
    exact fCv_w V0 ((show _ = x1.toInt from rfl).trans (show x1.toInt = _ from rfl)) (by have e1 : fEc 91 = 0 := rfl; have e2 : fEc 82 = 0 := rfl; omega) (fun x h => Or.inr (Or.inr (Or.inl ⟨hmk, h⟩))) (by
      intro y hy
      unfold fGn at hy
      rw [hmk] at hy
      rcases hy with hy | hy | ⟨-, hy⟩ | hy
      · omega
      · omega
      · rcases hy with hy | hy | ⟨-, hc, hy⟩
        · exact Or.inl hy
        · exact Or.inr (Or.inl hy)
        · exact absurd hc.2.2.2.1 (by rw [h1]; omega)
      · omega)
  exact ⟨p, fun _ => rfl, ⟨(fun q h => by cases h), fun q h => (by cases h), (fun f h => by cases h), (aAllc ⟨_, rfl, (fF_b (r := 1317) (by decide) rfl).mpr q0⟩ (fun f h => by cases h))⟩, [], List.mem_cons_self, fun f h => (by cases h)⟩
set_option maxRecDepth 8192 in
theorem rw_ruGD2SE {K : Nat → Nat} {n : Nat} : aGho (fF K n) fa_T K n (fJX K n) ag_ruGD2SE := by
  refine aGho_of ⟨rfl, rfl⟩ ?_
  intro p σ ρ hH hX hA hM
  have hG := aAG_of hA.1 (fun i e v he hv => (hA.2 i e v he hv).1)
  clear hA
  obtain ⟨v0, v1, v2, v3, v4, v5, rfl, g0, g1, g2, g3, g4, g5⟩ := fA_6 hG
  clear hG
  obtain ⟨x0, rfl, b0, d0⟩ := fG_ref (by decide) g0
  obtain ⟨x1, rfl, b1, d1⟩ := aG_int g1
  dsimp only at b1 d1
  obtain ⟨x2, rfl, b2, d2⟩ := aG_int g2
  dsimp only at b2 d2
  obtain ⟨x3, rfl, b3, d3⟩ := aG_int g3
  dsimp only at b3 d3
  obtain ⟨x4, rfl, b4, d4⟩ := aG_int g4
  dsimp only at b4 d4
  obtain ⟨x5, rfl, b5, d5⟩ := aG_int g5
  dsimp only at b5 d5
  obtain ⟨m1, m2, m3, m4⟩ := hM
  have f0 : fB K n p 91 [fR x0, fI x1, fI x2, fI x3, fI x4] σ := by
    obtain ⟨w, e6, e7⟩ := m4 (1461, [0, 1, 2, 3, 4]) (List.mem_of_getElem? (i := 0) rfl)
    obtain rfl : [fR x0, fI x1, fI x2, fI x3, fI x4] = w := Option.some.inj (show some [fR x0, fI x1, fI x2, fI x3, fI x4] = some w from e6)
    exact (fF_b (r := 1461) (by decide) rfl).mp e7
  have f1 : fB K n p 43 [fI x3, fI x5] σ := by
    obtain ⟨w, e6, e7⟩ := m4 (690, [3, 5]) (List.mem_of_getElem? (i := 1) rfl)
    obtain rfl : [fI x3, fI x5] = w := Option.some.inj (show some [fI x3, fI x5] = some w from e6)
    exact (fF_b (r := 690) (by decide) rfl).mp e7
  have f2 : fB K n p 36 [fI x3] σ := by
    obtain ⟨w, e6, e7⟩ := m4 (577, [3]) (List.mem_of_getElem? (i := 2) rfl)
    obtain rfl : [fI x3] = w := Option.some.inj (show some [fI x3] = some w from e6)
    exact (fF_b (r := 577) (by decide) rfl).mp e7
  clear m1 m2 m3 m4
  obtain ⟨a9_0, lo9_0, hi9_0, r9_0, S0, C0, e9_0, T0, V0⟩ := (fL_o (by decide) (by decide)).mp f0
  cases e9_0
  obtain ⟨y0_0, y0_1, e8_0, eS0, eC0⟩ := T0
  cases e8_0
  subst eS0
  subst eC0
  obtain ⟨y1_0, y1_1, e9_1, h1⟩ := f1
  cases e9_1
  obtain ⟨y2_0, e9_2, h2⟩ := f2
  cases e9_2
  have hmk : ((fq p).1 x3.toInt.toNat).toInt % 8 = 6 := by
    unfold fOw at h2
    rw [fNc] at h2
    rw [h2]
    omega
  have q0 : fB K n (p) 82 [fR x0, fI x1, fI x2, fI x3, fI x4] σ := by
    refine (fL_o (by decide) (by decide)).mpr ⟨x0, x1, x2, _, _, _, rfl, (Or.inl ⟨x3, x4, rfl, rfl, rfl⟩), ?_⟩
    exact fCv_w V0 ((show _ = x1.toInt from rfl).trans (show x1.toInt = _ from rfl)) (by have e1 : fEc 91 = 0 := rfl; have e2 : fEc 82 = 0 := rfl; omega) (fun x h => Or.inr (Or.inr (Or.inl ⟨hmk, h⟩))) (by
      intro y hy
      unfold fGn at hy
      rw [hmk] at hy
      rcases hy with hy | hy | ⟨-, hy⟩ | hy
      · omega
      · omega
      · rcases hy with hy | hy | ⟨-, hc, hy⟩
        · exact Or.inl hy
        · exact Or.inr (Or.inl hy)
        · exact absurd hc.2.2.2.2.1 (by rw [h1]; omega)
      · omega)
  exact ⟨p, fun _ => rfl, ⟨(fun q h => by cases h), fun q h => (by cases h), (fun f h => by cases h), (aAllc ⟨_, rfl, (fF_b (r := 1317) (by decide) rfl).mpr q0⟩ (fun f h => by cases h))⟩, [], List.mem_cons_self, fun f h => (by cases h)⟩
set_option maxRecDepth 8192 in
theorem rw_ruGD3SE {K : Nat → Nat} {n : Nat} : aGho (fF K n) fa_T K n (fJX K n) ag_ruGD3SE := by
  refine aGho_of ⟨rfl, rfl⟩ ?_
  intro p σ ρ hH hX hA hM
  have hG := aAG_of hA.1 (fun i e v he hv => (hA.2 i e v he hv).1)
  clear hA
  obtain ⟨v0, v1, v2, v3, v4, v5, rfl, g0, g1, g2, g3, g4, g5⟩ := fA_6 hG
  clear hG
  obtain ⟨x0, rfl, b0, d0⟩ := fG_ref (by decide) g0
  obtain ⟨x1, rfl, b1, d1⟩ := aG_int g1
  dsimp only at b1 d1
  obtain ⟨x2, rfl, b2, d2⟩ := aG_int g2
  dsimp only at b2 d2
  obtain ⟨x3, rfl, b3, d3⟩ := aG_int g3
  dsimp only at b3 d3
  obtain ⟨x4, rfl, b4, d4⟩ := aG_int g4
  dsimp only at b4 d4
  obtain ⟨x5, rfl, b5, d5⟩ := aG_int g5
  dsimp only at b5 d5
  obtain ⟨m1, m2, m3, m4⟩ := hM
  have f0 : fB K n p 91 [fR x0, fI x1, fI x2, fI x3, fI x4] σ := by
    obtain ⟨w, e6, e7⟩ := m4 (1461, [0, 1, 2, 3, 4]) (List.mem_of_getElem? (i := 0) rfl)
    obtain rfl : [fR x0, fI x1, fI x2, fI x3, fI x4] = w := Option.some.inj (show some [fR x0, fI x1, fI x2, fI x3, fI x4] = some w from e6)
    exact (fF_b (r := 1461) (by decide) rfl).mp e7
  have f1 : fB K n p 55 [fI x3, fI x5] σ := by
    obtain ⟨w, e6, e7⟩ := m4 (882, [3, 5]) (List.mem_of_getElem? (i := 1) rfl)
    obtain rfl : [fI x3, fI x5] = w := Option.some.inj (show some [fI x3, fI x5] = some w from e6)
    exact (fF_b (r := 882) (by decide) rfl).mp e7
  have f2 : fB K n p 36 [fI x3] σ := by
    obtain ⟨w, e6, e7⟩ := m4 (577, [3]) (List.mem_of_getElem? (i := 2) rfl)
    obtain rfl : [fI x3] = w := Option.some.inj (show some [fI x3] = some w from e6)
    exact (fF_b (r := 577) (by decide) rfl).mp e7
  clear m1 m2 m3 m4
  obtain ⟨a9_0, lo9_0, hi9_0, r9_0, S0, C0, e9_0, T0, V0⟩ := (fL_o (by decide) (by decide)).mp f0
  cases e9_0
  obtain ⟨y0_0, y0_1, e8_0, eS0, eC0⟩ := T0
  cases e8_0
  subst eS0
  subst eC0
  obtain ⟨y1_0, y1_1, e8_1, h1⟩ := (fE_o (by decide)).mp f1
  cases e8_1
  obtain ⟨y2_0, e9_2, h2⟩ := f2
  cases e9_2
  have hmk : ((fq p).1 x3.toInt.toNat).toInt % 8 = 6 := by
    unfold fOw at h2
    rw [fNc] at h2
    rw [h2]
    omega
  have q0 : fB K n (p) 82 [fR x0, fI x1, fI x2, fI x3, fI x4] σ := by
    refine (fL_o (by decide) (by decide)).mpr ⟨x0, x1, x2, _, _, _, rfl, (Or.inl ⟨x3, x4, rfl, rfl, rfl⟩), ?_⟩
    exact fCv_w V0 ((show _ = x1.toInt from rfl).trans (show x1.toInt = _ from rfl)) (by have e1 : fEc 91 = 0 := rfl; have e2 : fEc 82 = 0 := rfl; omega) (fun x h => Or.inr (Or.inr (Or.inl ⟨hmk, h⟩))) (by
      intro y hy
      unfold fGn at hy
      rw [hmk] at hy
      rcases hy with hy | hy | ⟨-, hy⟩ | hy
      · omega
      · omega
      · rcases hy with hy | hy | ⟨-, hc, hy⟩
        · exact Or.inl hy
        · exact Or.inr (Or.inl hy)
        · exact absurd hc.2.2.2.2.2 (by rw [h1]; omega)
      · omega)
  exact ⟨p, fun _ => rfl, ⟨(fun q h => by cases h), fun q h => (by cases h), (fun f h => by cases h), (aAllc ⟨_, rfl, (fF_b (r := 1317) (by decide) rfl).mpr q0⟩ (fun f h => by cases h))⟩, [], List.mem_cons_self, fun f h => (by cases h)⟩
set_option maxRecDepth 8192 in
theorem rw_ruGQ9SE {K : Nat → Nat} {n : Nat} : aGho (fF K n) fa_T K n (fJX K n) ag_ruGQ9SE := by
  refine aGho_of ⟨rfl, rfl⟩ ?_
  intro p σ ρ hH hX hA hM
  have hG := aAG_of hA.1 (fun i e v he hv => (hA.2 i e v he hv).1)
  clear hA
  obtain ⟨v0, v1, v2, v3, v4, v5, rfl, g0, g1, g2, g3, g4, g5⟩ := fA_6 hG
  clear hG
  obtain ⟨x0, rfl, b0, d0⟩ := fG_ref (by decide) g0
  obtain ⟨x1, rfl, b1, d1⟩ := aG_int g1
  dsimp only at b1 d1
  obtain ⟨x2, rfl, b2, d2⟩ := aG_int g2
  dsimp only at b2 d2
  obtain ⟨x3, rfl, b3, d3⟩ := aG_int g3
  dsimp only at b3 d3
  obtain ⟨x4, rfl, b4, d4⟩ := fG_ref (by decide) g4
  obtain ⟨x5, rfl, b5, d5⟩ := aG_int g5
  dsimp only at b5 d5
  obtain ⟨m1, m2, m3, m4⟩ := hM
  obtain ⟨a0, c0, fs0, w0, e1, s0, t0, e4⟩ := m1 (4, 2, 5) (List.mem_of_getElem? (i := 0) rfl)
  obtain rfl : x4 = a0 := Sum.inl.inj (Option.some.inj (Sum.inr.inj (Sum.inr.inj (Option.some.inj (show some (fR x4) = some _ from e1)))))
  obtain rfl : fI x5 = w0 := Option.some.inj (show some (fI x5) = some w0 from e4)
  clear e1 e4
  have l0 : 0 ≤ (1 * x3.toInt + (-1 * x2.toInt + (16 * x5.toInt + 0))) + -8 := by
    obtain ⟨z, e6, e7⟩ := m3 ([(3, 1), (2, -1), (5, 16)], -8) (List.mem_of_getElem? (i := 0) rfl)
    obtain rfl : (1 * x3.toInt + (-1 * x2.toInt + (16 * x5.toInt + 0))) = z := Option.some.inj (show some (1 * x3.toInt + (-1 * x2.toInt + (16 * x5.toInt + 0))) = some z from e6)
    exact e7
  have l1 : 0 ≤ (-1 * x3.toInt + (1 * x2.toInt + (-16 * x5.toInt + 0))) + 8 := by
    obtain ⟨z, e6, e7⟩ := m3 ([(3, -1), (2, 1), (5, -16)], 8) (List.mem_of_getElem? (i := 1) rfl)
    obtain rfl : (-1 * x3.toInt + (1 * x2.toInt + (-16 * x5.toInt + 0))) = z := Option.some.inj (show some (-1 * x3.toInt + (1 * x2.toInt + (-16 * x5.toInt + 0))) = some z from e6)
    exact e7
  have f0 : fB K n p 1 [fR x4] σ := by
    obtain ⟨w, e6, e7⟩ := m4 (17, [4]) (List.mem_of_getElem? (i := 0) rfl)
    obtain rfl : [fR x4] = w := Option.some.inj (show some [fR x4] = some w from e6)
    exact (fF_b (r := 17) (by decide) rfl).mp e7
  have f1 : fB K n p 34 [fI x2] σ := by
    obtain ⟨w, e6, e7⟩ := m4 (545, [2]) (List.mem_of_getElem? (i := 1) rfl)
    obtain rfl : [fI x2] = w := Option.some.inj (show some [fI x2] = some w from e6)
    exact (fF_b (r := 545) (by decide) rfl).mp e7
  clear m1 m2 m3 m4
  obtain ⟨a9_0, e9_0, h0, g0⟩ := f0
  cases e9_0
  obtain ⟨y1_0, e9_1, h1⟩ := f1
  cases e9_1
  have hmk : ((fq p).1 x2.toInt.toNat).toInt % 8 = 1 := by
    unfold fOw at h1
    rw [fNc] at h1
    rw [h1]
    omega
  have hF := fAt_of h0 s0
  have hsd := hF.2.1 x5 t0
  have q0 : fB K n (p) 81 [fR x0, fI x1, fI x1, fI x2] σ := by
    obtain ⟨g, hg9⟩ := fRow hH b0 d0 rfl (by decide)
    refine (fL_o (by decide) (by decide)).mpr ⟨x0, x1, x1, _, _, _, rfl, (Or.inl ⟨x2, rfl, rfl, rfl⟩), ?_⟩
    exact fCv_0 b0 (by unfold fRw; omega) hg9 (by have e1 : fEc 81 = 0 := rfl; show x1.toInt + fEc 81 ≤ x1.toInt; omega) (by
      intro y hy
      unfold fGn at hy
      rw [hmk] at hy
      rcases hy with ⟨-, hy, -⟩ | hy | hy | hy
      · unfold fOne at hy
        rw [← hsd] at hy
        omega
      · omega
      · omega
      · omega)
  exact ⟨p, fun _ => rfl, ⟨(fun q h => by cases h), fun q h => (by cases h), (fun f h => by cases h), (aAllc ⟨_, rfl, (fF_b (r := 1300) (by decide) rfl).mpr q0⟩ (fun f h => by cases h))⟩, [], List.mem_cons_self, fun f h => (by cases h)⟩
set_option maxRecDepth 8192 in
theorem rw_ruGQ8SE {K : Nat → Nat} {n : Nat} : aGho (fF K n) fa_T K n (fJX K n) ag_ruGQ8SE := by
  refine aGho_of ⟨rfl, rfl⟩ ?_
  intro p σ ρ hH hX hA hM
  have hG := aAG_of hA.1 (fun i e v he hv => (hA.2 i e v he hv).1)
  clear hA
  obtain ⟨v0, v1, v2, v3, v4, v5, rfl, g0, g1, g2, g3, g4, g5⟩ := fA_6 hG
  clear hG
  obtain ⟨x0, rfl, b0, d0⟩ := fG_ref (by decide) g0
  obtain ⟨x1, rfl, b1, d1⟩ := aG_int g1
  dsimp only at b1 d1
  obtain ⟨x2, rfl, b2, d2⟩ := aG_int g2
  dsimp only at b2 d2
  obtain ⟨x3, rfl, b3, d3⟩ := aG_int g3
  dsimp only at b3 d3
  obtain ⟨x4, rfl, b4, d4⟩ := fG_ref (by decide) g4
  obtain ⟨x5, rfl, b5, d5⟩ := aG_int g5
  dsimp only at b5 d5
  obtain ⟨m1, m2, m3, m4⟩ := hM
  obtain ⟨a0, c0, fs0, w0, e1, s0, t0, e4⟩ := m1 (4, 2, 5) (List.mem_of_getElem? (i := 0) rfl)
  obtain rfl : x4 = a0 := Sum.inl.inj (Option.some.inj (Sum.inr.inj (Sum.inr.inj (Option.some.inj (show some (fR x4) = some _ from e1)))))
  obtain rfl : fI x5 = w0 := Option.some.inj (show some (fI x5) = some w0 from e4)
  clear e1 e4
  have l0 : 0 ≤ (1 * x3.toInt + (-1 * x2.toInt + (16 * x5.toInt + 0))) + -8 := by
    obtain ⟨z, e6, e7⟩ := m3 ([(3, 1), (2, -1), (5, 16)], -8) (List.mem_of_getElem? (i := 0) rfl)
    obtain rfl : (1 * x3.toInt + (-1 * x2.toInt + (16 * x5.toInt + 0))) = z := Option.some.inj (show some (1 * x3.toInt + (-1 * x2.toInt + (16 * x5.toInt + 0))) = some z from e6)
    exact e7
  have l1 : 0 ≤ (-1 * x3.toInt + (1 * x2.toInt + (-16 * x5.toInt + 0))) + 8 := by
    obtain ⟨z, e6, e7⟩ := m3 ([(3, -1), (2, 1), (5, -16)], 8) (List.mem_of_getElem? (i := 1) rfl)
    obtain rfl : (-1 * x3.toInt + (1 * x2.toInt + (-16 * x5.toInt + 0))) = z := Option.some.inj (show some (-1 * x3.toInt + (1 * x2.toInt + (-16 * x5.toInt + 0))) = some z from e6)
    exact e7
  have f0 : fB K n p 1 [fR x4] σ := by
    obtain ⟨w, e6, e7⟩ := m4 (17, [4]) (List.mem_of_getElem? (i := 0) rfl)
    obtain rfl : [fR x4] = w := Option.some.inj (show some [fR x4] = some w from e6)
    exact (fF_b (r := 17) (by decide) rfl).mp e7
  have f1 : fB K n p 34 [fI x2] σ := by
    obtain ⟨w, e6, e7⟩ := m4 (545, [2]) (List.mem_of_getElem? (i := 1) rfl)
    obtain rfl : [fI x2] = w := Option.some.inj (show some [fI x2] = some w from e6)
    exact (fF_b (r := 545) (by decide) rfl).mp e7
  clear m1 m2 m3 m4
  obtain ⟨a9_0, e9_0, h0, g0⟩ := f0
  cases e9_0
  obtain ⟨y1_0, e9_1, h1⟩ := f1
  cases e9_1
  have hmk : ((fq p).1 x2.toInt.toNat).toInt % 8 = 1 := by
    unfold fOw at h1
    rw [fNc] at h1
    rw [h1]
    omega
  have hF := fAt_of h0 s0
  have hsd := hF.2.1 x5 t0
  have q0 : fB K n (p) 81 [fR x0, fI x1, fI x1, fI x2] σ := by
    obtain ⟨g, hg9⟩ := fRow hH b0 d0 rfl (by decide)
    refine (fL_o (by decide) (by decide)).mpr ⟨x0, x1, x1, _, _, _, rfl, (Or.inl ⟨x2, rfl, rfl, rfl⟩), ?_⟩
    exact fCv_0 b0 (by unfold fRw; omega) hg9 (by have e1 : fEc 81 = 0 := rfl; show x1.toInt + fEc 81 ≤ x1.toInt; omega) (by
      intro y hy
      unfold fGn at hy
      rw [hmk] at hy
      rcases hy with ⟨-, hy, -⟩ | hy | hy | hy
      · unfold fOne at hy
        rw [← hsd] at hy
        omega
      · omega
      · omega
      · omega)
  exact ⟨p, fun _ => rfl, ⟨(fun q h => by cases h), fun q h => (by cases h), (fun f h => by cases h), (aAllc ⟨_, rfl, (fF_b (r := 1300) (by decide) rfl).mpr q0⟩ (fun f h => by cases h))⟩, [], List.mem_cons_self, fun f h => (by cases h)⟩
set_option maxRecDepth 8192 in
theorem rw_ruGQ0SE {K : Nat → Nat} {n : Nat} : aGho (fF K n) fa_T K n (fJX K n) ag_ruGQ0SE := by
  refine aGho_of ⟨rfl, rfl⟩ ?_
  intro p σ ρ hH hX hA hM
  have hG := aAG_of hA.1 (fun i e v he hv => (hA.2 i e v he hv).1)
  clear hA
  obtain ⟨v0, v1, v2, v3, v4, rfl, g0, g1, g2, g3, g4⟩ := fA_5 hG
  clear hG
  obtain ⟨x0, rfl, b0, d0⟩ := fG_ref (by decide) g0
  obtain ⟨x1, rfl, b1, d1⟩ := aG_int g1
  dsimp only at b1 d1
  obtain ⟨x2, rfl, b2, d2⟩ := aG_int g2
  dsimp only at b2 d2
  obtain ⟨x3, rfl, b3, d3⟩ := aG_int g3
  dsimp only at b3 d3
  obtain ⟨x4, rfl, b4, d4⟩ := aG_int g4
  dsimp only at b4 d4
  obtain ⟨m1, m2, m3, m4⟩ := hM
  have l0 : 0 ≤ (1 * x4.toInt + (-1 * x3.toInt + 0)) + -1 := by
    obtain ⟨z, e6, e7⟩ := m3 ([(4, 1), (3, -1)], -1) (List.mem_of_getElem? (i := 0) rfl)
    obtain rfl : (1 * x4.toInt + (-1 * x3.toInt + 0)) = z := Option.some.inj (show some (1 * x4.toInt + (-1 * x3.toInt + 0)) = some z from e6)
    exact e7
  have l1 : 0 ≤ (-1 * x4.toInt + (1 * x3.toInt + 0)) + 1 := by
    obtain ⟨z, e6, e7⟩ := m3 ([(4, -1), (3, 1)], 1) (List.mem_of_getElem? (i := 1) rfl)
    obtain rfl : (-1 * x4.toInt + (1 * x3.toInt + 0)) = z := Option.some.inj (show some (-1 * x4.toInt + (1 * x3.toInt + 0)) = some z from e6)
    exact e7
  have f0 : fB K n p 59 [fI x2, fI x4] σ := by
    obtain ⟨w, e6, e7⟩ := m4 (946, [2, 4]) (List.mem_of_getElem? (i := 0) rfl)
    obtain rfl : [fI x2, fI x4] = w := Option.some.inj (show some [fI x2, fI x4] = some w from e6)
    exact (fF_b (r := 946) (by decide) rfl).mp e7
  clear m1 m2 m3 m4
  obtain ⟨y0_0, y0_1, e8_0, h0⟩ := fOr_l ((fE_o (by decide)).mp f0) (by rintro ⟨_, _, e9, -⟩; cases e9)
  cases e8_0
  have eo : fOne (fq p).2 x2.toInt = x4.toInt := h0.symm
  have q0 : fB K n (p) 93 [fR x0, fI x1, fI x1, fI x2, fI x3] σ := by
    obtain ⟨g, hg9⟩ := fRow hH b0 d0 rfl (by decide)
    refine (fL_o (by decide) (by decide)).mpr ⟨x0, x1, x1, _, _, _, rfl, ⟨x2, x3, rfl, rfl, rfl, by omega, by omega⟩, ?_⟩
    exact fCv_0 b0 (by unfold fRw; omega) hg9 (by have e1 : fEc 93 = 0 := rfl; show x1.toInt + fEc 93 ≤ x1.toInt; omega) (by
      rintro y ⟨-, ⟨u, b, u1, u2, u3, u4, u5, hp, -⟩ | h⟩
      · omega
      · exact h.1)
  exact ⟨p, fun _ => rfl, ⟨(fun q h => by cases h), fun q h => (by cases h), (fun f h => by cases h), (aAllc ⟨_, rfl, (fF_b (r := 1493) (by decide) rfl).mpr q0⟩ (fun f h => by cases h))⟩, [], List.mem_cons_self, fun f h => (by cases h)⟩
set_option maxRecDepth 8192 in
theorem rw_ruGQmSE {K : Nat → Nat} {n : Nat} : aGho (fF K n) fa_T K n (fJX K n) ag_ruGQmSE := by
  refine aGho_of ⟨rfl, rfl⟩ ?_
  intro p σ ρ hH hX hA hM
  have hG := aAG_of hA.1 (fun i e v he hv => (hA.2 i e v he hv).1)
  clear hA
  obtain ⟨v0, v1, v2, v3, v4, v5, v6, v7, rfl, g0, g1, g2, g3, g4, g5, g6, g7⟩ := fA_8 hG
  clear hG
  obtain ⟨x0, rfl, b0, d0⟩ := fG_ref (by decide) g0
  obtain ⟨x1, rfl, b1, d1⟩ := aG_int g1
  dsimp only at b1 d1
  obtain ⟨x2, rfl, b2, d2⟩ := aG_int g2
  dsimp only at b2 d2
  obtain ⟨x3, rfl, b3, d3⟩ := aG_int g3
  dsimp only at b3 d3
  obtain ⟨x4, rfl, b4, d4⟩ := aG_int g4
  dsimp only at b4 d4
  obtain ⟨x5, rfl, b5, d5⟩ := aG_int g5
  dsimp only at b5 d5
  obtain ⟨x6, rfl, b6, d6⟩ := aG_int g6
  dsimp only at b6 d6
  obtain ⟨x7, rfl, b7, d7⟩ := aG_int g7
  dsimp only at b7 d7
  obtain ⟨m1, m2, m3, m4⟩ := hM
  have l0 : 0 ≤ (1 * x5.toInt + (-2 * x6.toInt + 0)) + 0 := by
    obtain ⟨z, e6, e7⟩ := m3 ([(5, 1), (6, -2)], 0) (List.mem_of_getElem? (i := 0) rfl)
    obtain rfl : (1 * x5.toInt + (-2 * x6.toInt + 0)) = z := Option.some.inj (show some (1 * x5.toInt + (-2 * x6.toInt + 0)) = some z from e6)
    exact e7
  have l1 : 0 ≤ (-1 * x5.toInt + (2 * x6.toInt + 0)) + 0 := by
    obtain ⟨z, e6, e7⟩ := m3 ([(5, -1), (6, 2)], 0) (List.mem_of_getElem? (i := 1) rfl)
    obtain rfl : (-1 * x5.toInt + (2 * x6.toInt + 0)) = z := Option.some.inj (show some (-1 * x5.toInt + (2 * x6.toInt + 0)) = some z from e6)
    exact e7
  have l2 : 0 ≤ (1 * x7.toInt + (-1 * x4.toInt + 0)) + 1 := by
    obtain ⟨z, e6, e7⟩ := m3 ([(7, 1), (4, -1)], 1) (List.mem_of_getElem? (i := 2) rfl)
    obtain rfl : (1 * x7.toInt + (-1 * x4.toInt + 0)) = z := Option.some.inj (show some (1 * x7.toInt + (-1 * x4.toInt + 0)) = some z from e6)
    exact e7
  have f0 : fB K n p 93 [fR x0, fI x1, fI x2, fI x3, fI x4] σ := by
    obtain ⟨w, e6, e7⟩ := m4 (1493, [0, 1, 2, 3, 4]) (List.mem_of_getElem? (i := 0) rfl)
    obtain rfl : [fR x0, fI x1, fI x2, fI x3, fI x4] = w := Option.some.inj (show some [fR x0, fI x1, fI x2, fI x3, fI x4] = some w from e6)
    exact (fF_b (r := 1493) (by decide) rfl).mp e7
  have f1 : fB K n p 56 [fI x3, fI x4] σ := by
    obtain ⟨w, e6, e7⟩ := m4 (898, [3, 4]) (List.mem_of_getElem? (i := 1) rfl)
    obtain rfl : [fI x3, fI x4] = w := Option.some.inj (show some [fI x3, fI x4] = some w from e6)
    exact (fF_b (r := 898) (by decide) rfl).mp e7
  have f2 : fB K n p 58 [fI x3, fI x6] σ := by
    obtain ⟨w, e6, e7⟩ := m4 (930, [3, 6]) (List.mem_of_getElem? (i := 2) rfl)
    obtain rfl : [fI x3, fI x6] = w := Option.some.inj (show some [fI x3, fI x6] = some w from e6)
    exact (fF_b (r := 930) (by decide) rfl).mp e7
  have f3 : fB K n p 59 [fI x3, fI x7] σ := by
    obtain ⟨w, e6, e7⟩ := m4 (946, [3, 7]) (List.mem_of_getElem? (i := 3) rfl)
    obtain rfl : [fI x3, fI x7] = w := Option.some.inj (show some [fI x3, fI x7] = some w from e6)
    exact (fF_b (r := 946) (by decide) rfl).mp e7
  clear m1 m2 m3 m4
  obtain ⟨a9_0, lo9_0, hi9_0, r9_0, S0, C0, e9_0, T0, V0⟩ := (fL_o (by decide) (by decide)).mp f0
  cases e9_0
  obtain ⟨y0_0, y0_1, e8_0, eS0, eC0, o0, z0⟩ := T0
  cases e8_0
  subst eS0
  subst eC0
  obtain ⟨y1_0, y1_1, e8_1, h1⟩ := fOr_l ((fE_o (by decide)).mp f1) (by rintro ⟨_, _, _, _, _, _, e9, -⟩; cases e9)
  cases e8_1
  obtain ⟨y2_0, y2_1, e8_2, h2⟩ := fOr_l ((fE_o (by decide)).mp f2) (by rintro ⟨_, e9, -⟩; cases e9)
  cases e8_2
  obtain ⟨y3_0, y3_1, e8_3, h3⟩ := fOr_l ((fE_o (by decide)).mp f3) (by rintro ⟨_, _, e9, -⟩; cases e9)
  cases e8_3
  have eo : fOne (fq p).2 x3.toInt = x7.toInt := h3.symm
  have q0 : fB K n (p) 94 [fR x0, fI x1, fI x2, fI x3, fI x4, fI x5] σ := by
    refine (fL_o (by decide) (by decide)).mpr ⟨x0, x1, x2, _, _, _, rfl, ⟨x3, x4, x5, rfl, rfl, rfl, h1, o0, z0, by omega⟩, ?_⟩
    exact fCv_w V0 ((show _ = x1.toInt from rfl).trans (show x1.toInt = _ from rfl)) (by have e1 : fEc 93 = 0 := rfl; have e2 : fEc 94 = 0 := rfl; omega) (fun x h => h) (by
      rintro y ⟨y1, ⟨u, b, u1, u2, u3, u4, u5, hp, hy⟩ | h⟩
      · refine ⟨y1, Or.inl ⟨u, b, u1, u2, u3, u4, u5, ?_, hy⟩⟩
        rcases h2 with ⟨q1, q2⟩ | ⟨q1, q2⟩
        · have := u4 q2
          omega
        · have := u5 q2
          omega
      · exact h.1.elim)
  exact ⟨p, fun _ => rfl, ⟨(fun q h => by cases h), fun q h => (by cases h), (fun f h => by cases h), (aAllc ⟨_, rfl, (fF_b (r := 1510) (by decide) rfl).mpr q0⟩ (fun f h => by cases h))⟩, [], List.mem_cons_self, fun f h => (by cases h)⟩
set_option maxRecDepth 8192 in
theorem rw_ruGQsSE {K : Nat → Nat} {n : Nat} : aGho (fF K n) fa_T K n (fJX K n) ag_ruGQsSE := by
  refine aGho_of ⟨rfl, rfl⟩ ?_
  intro p σ ρ hH hX hA hM
  have hG := aAG_of hA.1 (fun i e v he hv => (hA.2 i e v he hv).1)
  clear hA
  obtain ⟨v0, v1, v2, v3, v4, v5, v6, v7, rfl, g0, g1, g2, g3, g4, g5, g6, g7⟩ := fA_8 hG
  clear hG
  obtain ⟨x0, rfl, b0, d0⟩ := fG_ref (by decide) g0
  obtain ⟨x1, rfl, b1, d1⟩ := aG_int g1
  dsimp only at b1 d1
  obtain ⟨x2, rfl, b2, d2⟩ := aG_int g2
  dsimp only at b2 d2
  obtain ⟨x3, rfl, b3, d3⟩ := aG_int g3
  dsimp only at b3 d3
  obtain ⟨x4, rfl, b4, d4⟩ := aG_int g4
  dsimp only at b4 d4
  obtain ⟨x5, rfl, b5, d5⟩ := aG_int g5
  dsimp only at b5 d5
  obtain ⟨x6, rfl, b6, d6⟩ := aG_int g6
  dsimp only at b6 d6
  obtain ⟨x7, rfl, b7, d7⟩ := aG_int g7
  dsimp only at b7 d7
  obtain ⟨m1, m2, m3, m4⟩ := hM
  have l0 : 0 ≤ (1 * x2.toInt + (-512 * x4.toInt + (-8 * x5.toInt + (-1 * x6.toInt + 0)))) + 0 := by
    obtain ⟨z, e6, e7⟩ := m3 ([(2, 1), (4, -512), (5, -8), (6, -1)], 0) (List.mem_of_getElem? (i := 0) rfl)
    obtain rfl : (1 * x2.toInt + (-512 * x4.toInt + (-8 * x5.toInt + (-1 * x6.toInt + 0)))) = z := Option.some.inj (show some (1 * x2.toInt + (-512 * x4.toInt + (-8 * x5.toInt + (-1 * x6.toInt + 0)))) = some z from e6)
    exact e7
  have l1 : 0 ≤ (-1 * x2.toInt + (512 * x4.toInt + (8 * x5.toInt + (1 * x6.toInt + 0)))) + 0 := by
    obtain ⟨z, e6, e7⟩ := m3 ([(2, -1), (4, 512), (5, 8), (6, 1)], 0) (List.mem_of_getElem? (i := 1) rfl)
    obtain rfl : (-1 * x2.toInt + (512 * x4.toInt + (8 * x5.toInt + (1 * x6.toInt + 0)))) = z := Option.some.inj (show some (-1 * x2.toInt + (512 * x4.toInt + (8 * x5.toInt + (1 * x6.toInt + 0)))) = some z from e6)
    exact e7
  have l2 : 0 ≤ (1 * x6.toInt + (-2 * x7.toInt + 0)) + 0 := by
    obtain ⟨z, e6, e7⟩ := m3 ([(6, 1), (7, -2)], 0) (List.mem_of_getElem? (i := 2) rfl)
    obtain rfl : (1 * x6.toInt + (-2 * x7.toInt + 0)) = z := Option.some.inj (show some (1 * x6.toInt + (-2 * x7.toInt + 0)) = some z from e6)
    exact e7
  have l3 : 0 ≤ (-1 * x6.toInt + (5 * x7.toInt + 0)) + 0 := by
    obtain ⟨z, e6, e7⟩ := m3 ([(6, -1), (7, 5)], 0) (List.mem_of_getElem? (i := 3) rfl)
    obtain rfl : (-1 * x6.toInt + (5 * x7.toInt + 0)) = z := Option.some.inj (show some (-1 * x6.toInt + (5 * x7.toInt + 0)) = some z from e6)
    exact e7
  have l4 : 0 ≤ (1 * x1.toInt + (-1 * x3.toInt + 0)) + 0 := by
    obtain ⟨z, e6, e7⟩ := m3 ([(1, 1), (3, -1)], 0) (List.mem_of_getElem? (i := 4) rfl)
    obtain rfl : (1 * x1.toInt + (-1 * x3.toInt + 0)) = z := Option.some.inj (show some (1 * x1.toInt + (-1 * x3.toInt + 0)) = some z from e6)
    exact e7
  have f0 : fB K n p 94 [fR x0, fI x3, fI x1, fI x4, fI x5, fI x6] σ := by
    obtain ⟨w, e6, e7⟩ := m4 (1510, [0, 3, 1, 4, 5, 6]) (List.mem_of_getElem? (i := 0) rfl)
    obtain rfl : [fR x0, fI x3, fI x1, fI x4, fI x5, fI x6] = w := Option.some.inj (show some [fR x0, fI x3, fI x1, fI x4, fI x5, fI x6] = some w from e6)
    exact (fF_b (r := 1510) (by decide) rfl).mp e7
  have f1 : fB K n p 58 [fI x4, fI x7] σ := by
    obtain ⟨w, e6, e7⟩ := m4 (930, [4, 7]) (List.mem_of_getElem? (i := 1) rfl)
    obtain rfl : [fI x4, fI x7] = w := Option.some.inj (show some [fI x4, fI x7] = some w from e6)
    exact (fF_b (r := 930) (by decide) rfl).mp e7
  clear m1 m2 m3 m4
  obtain ⟨a9_0, lo9_0, hi9_0, r9_0, S0, C0, e9_0, T0, V0⟩ := (fL_o (by decide) (by decide)).mp f0
  cases e9_0
  obtain ⟨y0_0, y0_1, y0_2, e8_0, eS0, eC0, m0, o0, z0, v0⟩ := T0
  cases e8_0
  subst eS0
  subst eC0
  obtain ⟨y1_0, y1_1, e8_1, h1⟩ := fOr_l ((fE_o (by decide)).mp f1) (by rintro ⟨_, e9, -⟩; cases e9)
  cases e8_1
  have q0 : fB K n (p) 95 [fR x0, fI x3, fI x1, fI x4, fI x5, fI x6] (jup σ x0 (jsto (σ x0) x1.toNatClampNeg x2)) := by
    refine (fL_o (by decide) (by decide)).mpr ⟨x0, x3, x1, _, _, _, rfl, ⟨x4, x5, x6, rfl, rfl, rfl, m0, o0, z0, v0⟩, ?_⟩
    refine fCv_st V0 (by rw [fNc]; have e1 : fEc 94 = 0 := rfl; omega) (by have e1 : fEc 94 = 0 := rfl; show x3.toInt ≤ _; omega) (by have e1 : fEc 94 = 0 := rfl; have e2 : fEc 95 = 1 := rfl; omega) (⟨o0, Or.inl ⟨x5.toInt, x6.toInt, z0, v0, m0, fun h => ?_, fun h => ?_, trivial, by omega⟩⟩) (by
      rintro y ⟨y1, ⟨u, b, u1, u2, u3, u4, u5, hp, hy⟩ | h⟩
      · by_cases hh : u = x5.toInt ∧ b = x6.toInt
        · exact Or.inr (fI32 (by rw [hy, hh.1, hh.2]; omega))
        · exact Or.inl ⟨y1, Or.inl ⟨u, b, u1, u2, u3, u4, u5, by omega, hy⟩⟩
      · exact h.1.elim)
    · rcases h1 with ⟨q1, q2⟩ | ⟨q1, q2⟩
      · omega
      · exact absurd h q2
    · rcases h1 with ⟨q1, q2⟩ | ⟨q1, q2⟩
      · exact absurd q2 h
      · omega
  exact ⟨p, fun _ => rfl, ⟨(fun q h => by cases h), fun q h => (by cases h), (fun f h => by cases h), (aAllc ⟨_, rfl, fF_p (r := 1526) (by decide) (by decide) rfl q0⟩ (fun f h => by cases h))⟩, [], List.mem_cons_self, fun f h => (by cases h)⟩
set_option maxRecDepth 8192 in
theorem rw_ruGQnSE {K : Nat → Nat} {n : Nat} : aGho (fF K n) fa_T K n (fJX K n) ag_ruGQnSE := by
  refine aGho_of ⟨rfl, rfl⟩ ?_
  intro p σ ρ hH hX hA hM
  have hG := aAG_of hA.1 (fun i e v he hv => (hA.2 i e v he hv).1)
  clear hA
  obtain ⟨v0, v1, v2, v3, v4, v5, v6, v7, rfl, g0, g1, g2, g3, g4, g5, g6, g7⟩ := fA_8 hG
  clear hG
  obtain ⟨x0, rfl, b0, d0⟩ := fG_ref (by decide) g0
  obtain ⟨x1, rfl, b1, d1⟩ := aG_int g1
  dsimp only at b1 d1
  obtain ⟨x2, rfl, b2, d2⟩ := aG_int g2
  dsimp only at b2 d2
  obtain ⟨x3, rfl, b3, d3⟩ := aG_int g3
  dsimp only at b3 d3
  obtain ⟨x4, rfl, b4, d4⟩ := aG_int g4
  dsimp only at b4 d4
  obtain ⟨x5, rfl, b5, d5⟩ := aG_int g5
  dsimp only at b5 d5
  obtain ⟨x6, rfl, b6, d6⟩ := aG_int g6
  dsimp only at b6 d6
  obtain ⟨x7, rfl, b7, d7⟩ := aG_int g7
  dsimp only at b7 d7
  obtain ⟨m1, m2, m3, m4⟩ := hM
  have l0 : 0 ≤ (1 * x6.toInt + (-1 * x2.toInt + 0)) + -1 := by
    obtain ⟨z, e6, e7⟩ := m3 ([(6, 1), (2, -1)], -1) (List.mem_of_getElem? (i := 0) rfl)
    obtain rfl : (1 * x6.toInt + (-1 * x2.toInt + 0)) = z := Option.some.inj (show some (1 * x6.toInt + (-1 * x2.toInt + 0)) = some z from e6)
    exact e7
  have l1 : 0 ≤ (-1 * x6.toInt + (1 * x2.toInt + 0)) + 1 := by
    obtain ⟨z, e6, e7⟩ := m3 ([(6, -1), (2, 1)], 1) (List.mem_of_getElem? (i := 1) rfl)
    obtain rfl : (-1 * x6.toInt + (1 * x2.toInt + 0)) = z := Option.some.inj (show some (-1 * x6.toInt + (1 * x2.toInt + 0)) = some z from e6)
    exact e7
  have l2 : 0 ≤ (1 * x7.toInt + (-1 * x5.toInt + 0)) + -1 := by
    obtain ⟨z, e6, e7⟩ := m3 ([(7, 1), (5, -1)], -1) (List.mem_of_getElem? (i := 2) rfl)
    obtain rfl : (1 * x7.toInt + (-1 * x5.toInt + 0)) = z := Option.some.inj (show some (1 * x7.toInt + (-1 * x5.toInt + 0)) = some z from e6)
    exact e7
  have l3 : 0 ≤ (-1 * x7.toInt + (1 * x5.toInt + 0)) + 1 := by
    obtain ⟨z, e6, e7⟩ := m3 ([(7, -1), (5, 1)], 1) (List.mem_of_getElem? (i := 3) rfl)
    obtain rfl : (-1 * x7.toInt + (1 * x5.toInt + 0)) = z := Option.some.inj (show some (-1 * x7.toInt + (1 * x5.toInt + 0)) = some z from e6)
    exact e7
  have f0 : fB K n p 95 [fR x0, fI x1, fI x2, fI x3, fI x4, fI x5] σ := by
    obtain ⟨w, e6, e7⟩ := m4 (1526, [0, 1, 2, 3, 4, 5]) (List.mem_of_getElem? (i := 0) rfl)
    obtain rfl : [fR x0, fI x1, fI x2, fI x3, fI x4, fI x5] = w := Option.some.inj (show some [fR x0, fI x1, fI x2, fI x3, fI x4, fI x5] = some w from e6)
    exact (fF_b (r := 1526) (by decide) rfl).mp e7
  clear m1 m2 m3 m4
  obtain ⟨a9_0, lo9_0, hi9_0, r9_0, S0, C0, e9_0, T0, V0⟩ := (fL_o (by decide) (by decide)).mp f0
  cases e9_0
  obtain ⟨y0_0, y0_1, y0_2, e8_0, eS0, eC0, m0, o0, z0, v0⟩ := T0
  cases e8_0
  subst eS0
  subst eC0
  have q0 : fB K n (p) 94 [fR x0, fI x1, fI x6, fI x3, fI x4, fI x7] σ := by
    refine (fL_o (by decide) (by decide)).mpr ⟨x0, x1, x6, _, _, _, rfl, ⟨x3, x4, x7, rfl, rfl, rfl, m0, o0, z0, v0⟩, ?_⟩
    exact fCv_w V0 ((show _ = x1.toInt from rfl).trans (show x1.toInt = _ from rfl)) (by have e1 : fEc 95 = 1 := rfl; have e2 : fEc 94 = 0 := rfl; omega) (fun x h => h) (by
      rintro y ⟨y1, ⟨u, b, u1, u2, u3, u4, u5, hp, hy⟩ | h⟩
      · exact ⟨y1, Or.inl ⟨u, b, u1, u2, u3, u4, u5, by omega, hy⟩⟩
      · exact h.1.elim)
  exact ⟨p, fun _ => rfl, ⟨(fun q h => by cases h), fun q h => (by cases h), (fun f h => by cases h), (aAllc ⟨_, rfl, (fF_b (r := 1510) (by decide) rfl).mpr q0⟩ (fun f h => by cases h))⟩, [], List.mem_cons_self, fun f h => (by cases h)⟩
set_option maxRecDepth 8192 in
theorem rw_ruGQqSE {K : Nat → Nat} {n : Nat} : aGho (fF K n) fa_T K n (fJX K n) ag_ruGQqSE := by
  refine aGho_of ⟨rfl, rfl⟩ ?_
  intro p σ ρ hH hX hA hM
  have hG := aAG_of hA.1 (fun i e v he hv => (hA.2 i e v he hv).1)
  clear hA
  obtain ⟨v0, v1, v2, v3, v4, v5, v6, v7, rfl, g0, g1, g2, g3, g4, g5, g6, g7⟩ := fA_8 hG
  clear hG
  obtain ⟨x0, rfl, b0, d0⟩ := fG_ref (by decide) g0
  obtain ⟨x1, rfl, b1, d1⟩ := aG_int g1
  dsimp only at b1 d1
  obtain ⟨x2, rfl, b2, d2⟩ := aG_int g2
  dsimp only at b2 d2
  obtain ⟨x3, rfl, b3, d3⟩ := aG_int g3
  dsimp only at b3 d3
  obtain ⟨x4, rfl, b4, d4⟩ := aG_int g4
  dsimp only at b4 d4
  obtain ⟨x5, rfl, b5, d5⟩ := aG_int g5
  dsimp only at b5 d5
  obtain ⟨x6, rfl, b6, d6⟩ := aG_int g6
  dsimp only at b6 d6
  obtain ⟨x7, rfl, b7, d7⟩ := aG_int g7
  dsimp only at b7 d7
  obtain ⟨m1, m2, m3, m4⟩ := hM
  have l0 : 0 ≤ (1 * x7.toInt + (-1 * x4.toInt + 0)) + -1 := by
    obtain ⟨z, e6, e7⟩ := m3 ([(7, 1), (4, -1)], -1) (List.mem_of_getElem? (i := 0) rfl)
    obtain rfl : (1 * x7.toInt + (-1 * x4.toInt + 0)) = z := Option.some.inj (show some (1 * x7.toInt + (-1 * x4.toInt + 0)) = some z from e6)
    exact e7
  have l1 : 0 ≤ (-1 * x7.toInt + (1 * x4.toInt + 0)) + 1 := by
    obtain ⟨z, e6, e7⟩ := m3 ([(7, -1), (4, 1)], 1) (List.mem_of_getElem? (i := 1) rfl)
    obtain rfl : (-1 * x7.toInt + (1 * x4.toInt + 0)) = z := Option.some.inj (show some (-1 * x7.toInt + (1 * x4.toInt + 0)) = some z from e6)
    exact e7
  have l2 : 0 ≤ (1 * x5.toInt + (-5 * x6.toInt + 0)) + -1 := by
    obtain ⟨z, e6, e7⟩ := m3 ([(5, 1), (6, -5)], -1) (List.mem_of_getElem? (i := 2) rfl)
    obtain rfl : (1 * x5.toInt + (-5 * x6.toInt + 0)) = z := Option.some.inj (show some (1 * x5.toInt + (-5 * x6.toInt + 0)) = some z from e6)
    exact e7
  have f0 : fB K n p 94 [fR x0, fI x1, fI x2, fI x3, fI x4, fI x5] σ := by
    obtain ⟨w, e6, e7⟩ := m4 (1510, [0, 1, 2, 3, 4, 5]) (List.mem_of_getElem? (i := 0) rfl)
    obtain rfl : [fR x0, fI x1, fI x2, fI x3, fI x4, fI x5] = w := Option.some.inj (show some [fR x0, fI x1, fI x2, fI x3, fI x4, fI x5] = some w from e6)
    exact (fF_b (r := 1510) (by decide) rfl).mp e7
  have f1 : fB K n p 58 [fI x3, fI x6] σ := by
    obtain ⟨w, e6, e7⟩ := m4 (930, [3, 6]) (List.mem_of_getElem? (i := 1) rfl)
    obtain rfl : [fI x3, fI x6] = w := Option.some.inj (show some [fI x3, fI x6] = some w from e6)
    exact (fF_b (r := 930) (by decide) rfl).mp e7
  clear m1 m2 m3 m4
  obtain ⟨a9_0, lo9_0, hi9_0, r9_0, S0, C0, e9_0, T0, V0⟩ := (fL_o (by decide) (by decide)).mp f0
  cases e9_0
  obtain ⟨y0_0, y0_1, y0_2, e8_0, eS0, eC0, m0, o0, z0, v0⟩ := T0
  cases e8_0
  subst eS0
  subst eC0
  obtain ⟨y1_0, y1_1, e8_1, h1⟩ := fOr_l ((fE_o (by decide)).mp f1) (by rintro ⟨_, e9, -⟩; cases e9)
  cases e8_1
  have q0 : fB K n (p) 93 [fR x0, fI x1, fI x2, fI x3, fI x7] σ := by
    refine (fL_o (by decide) (by decide)).mpr ⟨x0, x1, x2, _, _, _, rfl, ⟨x3, x7, rfl, rfl, rfl, o0, by omega⟩, ?_⟩
    exact fCv_w V0 ((show _ = x1.toInt from rfl).trans (show x1.toInt = _ from rfl)) (by have e1 : fEc 94 = 0 := rfl; have e2 : fEc 93 = 0 := rfl; omega) (fun x h => h) (by
      rintro y ⟨y1, ⟨u, b, u1, u2, u3, u4, u5, hp, hy⟩ | h⟩
      · refine ⟨y1, Or.inl ⟨u, b, u1, u2, u3, u4, u5, ?_, hy⟩⟩
        rcases h1 with ⟨q1, q2⟩ | ⟨q1, q2⟩
        · have := u4 q2
          omega
        · have := u5 q2
          omega
      · exact h.1.elim)
  exact ⟨p, fun _ => rfl, ⟨(fun q h => by cases h), fun q h => (by cases h), (fun f h => by cases h), (aAllc ⟨_, rfl, (fF_b (r := 1493) (by decide) rfl).mpr q0⟩ (fun f h => by cases h))⟩, [], List.mem_cons_self, fun f h => (by cases h)⟩
set_option maxRecDepth 8192 in
theorem rw_ruGQzSE {K : Nat → Nat} {n : Nat} : aGho (fF K n) fa_T K n (fJX K n) ag_ruGQzSE := by
  refine aGho_of ⟨rfl, rfl⟩ ?_
  intro p σ ρ hH hX hA hM
  have hG := aAG_of hA.1 (fun i e v he hv => (hA.2 i e v he hv).1)
  clear hA
  obtain ⟨v0, v1, v2, v3, v4, v5, rfl, g0, g1, g2, g3, g4, g5⟩ := fA_6 hG
  clear hG
  obtain ⟨x0, rfl, b0, d0⟩ := fG_ref (by decide) g0
  obtain ⟨x1, rfl, b1, d1⟩ := aG_int g1
  dsimp only at b1 d1
  obtain ⟨x2, rfl, b2, d2⟩ := aG_int g2
  dsimp only at b2 d2
  obtain ⟨x3, rfl, b3, d3⟩ := aG_int g3
  dsimp only at b3 d3
  obtain ⟨x4, rfl, b4, d4⟩ := aG_int g4
  dsimp only at b4 d4
  obtain ⟨x5, rfl, b5, d5⟩ := aG_int g5
  dsimp only at b5 d5
  obtain ⟨m1, m2, m3, m4⟩ := hM
  have l0 : 0 ≤ (1 * x5.toInt + (-1 * x4.toInt + 0)) + -1 := by
    obtain ⟨z, e6, e7⟩ := m3 ([(5, 1), (4, -1)], -1) (List.mem_of_getElem? (i := 0) rfl)
    obtain rfl : (1 * x5.toInt + (-1 * x4.toInt + 0)) = z := Option.some.inj (show some (1 * x5.toInt + (-1 * x4.toInt + 0)) = some z from e6)
    exact e7
  have l1 : 0 ≤ (-1 * x5.toInt + (1 * x4.toInt + 0)) + 1 := by
    obtain ⟨z, e6, e7⟩ := m3 ([(5, -1), (4, 1)], 1) (List.mem_of_getElem? (i := 1) rfl)
    obtain rfl : (-1 * x5.toInt + (1 * x4.toInt + 0)) = z := Option.some.inj (show some (-1 * x5.toInt + (1 * x4.toInt + 0)) = some z from e6)
    exact e7
  have f0 : fB K n p 57 [fI x3, fI x4] σ := by
    obtain ⟨w, e6, e7⟩ := m4 (914, [3, 4]) (List.mem_of_getElem? (i := 0) rfl)
    obtain rfl : [fI x3, fI x4] = w := Option.some.inj (show some [fI x3, fI x4] = some w from e6)
    exact (fF_b (r := 914) (by decide) rfl).mp e7
  have f1 : fB K n p 93 [fR x0, fI x1, fI x2, fI x3, fI x4] σ := by
    obtain ⟨w, e6, e7⟩ := m4 (1493, [0, 1, 2, 3, 4]) (List.mem_of_getElem? (i := 1) rfl)
    obtain rfl : [fR x0, fI x1, fI x2, fI x3, fI x4] = w := Option.some.inj (show some [fR x0, fI x1, fI x2, fI x3, fI x4] = some w from e6)
    exact (fF_b (r := 1493) (by decide) rfl).mp e7
  clear m1 m2 m3 m4
  obtain ⟨y0_0, y0_1, e8_0, h0⟩ := fOr_l ((fE_o (by decide)).mp f0) (by rintro ⟨_, _, _, _, _, _, e9, -⟩; cases e9)
  cases e8_0
  obtain ⟨a9_1, lo9_1, hi9_1, r9_1, S1, C1, e9_1, T1, V1⟩ := (fL_o (by decide) (by decide)).mp f1
  cases e9_1
  obtain ⟨y1_0, y1_1, e8_1, eS1, eC1, o1, z1⟩ := T1
  cases e8_1
  subst eS1
  subst eC1
  have q0 : fB K n (p) 93 [fR x0, fI x1, fI x2, fI x3, fI x5] σ := by
    refine (fL_o (by decide) (by decide)).mpr ⟨x0, x1, x2, _, _, _, rfl, ⟨x3, x5, rfl, rfl, rfl, o1, by omega⟩, ?_⟩
    exact fCv_w V1 ((show _ = x1.toInt from rfl).trans (show x1.toInt = _ from rfl)) (by have e1 : fEc 93 = 0 := rfl; have e2 : fEc 93 = 0 := rfl; omega) (fun x h => h) (by
      rintro y ⟨y1, ⟨u, b, u1, u2, u3, u4, u5, hp, hy⟩ | h⟩
      · refine ⟨y1, Or.inl ⟨u, b, u1, u2, u3, u4, u5, ?_, hy⟩⟩
        by_cases hh : u = x4.toInt
        · rw [hh] at u3
          exact absurd u3 h0
        · omega
      · exact h.1.elim)
  exact ⟨p, fun _ => rfl, ⟨(fun q h => by cases h), fun q h => (by cases h), (fun f h => by cases h), (aAllc ⟨_, rfl, (fF_b (r := 1493) (by decide) rfl).mpr q0⟩ (fun f h => by cases h))⟩, [], List.mem_cons_self, fun f h => (by cases h)⟩
set_option maxRecDepth 8192 in
theorem rw_ruGQdSE {K : Nat → Nat} {n : Nat} : aGho (fF K n) fa_T K n (fJX K n) ag_ruGQdSE := by
  refine aGho_of ⟨rfl, rfl⟩ ?_
  intro p σ ρ hH hX hA hM
  have hG := aAG_of hA.1 (fun i e v he hv => (hA.2 i e v he hv).1)
  clear hA
  obtain ⟨v0, v1, v2, v3, v4, v5, rfl, g0, g1, g2, g3, g4, g5⟩ := fA_6 hG
  clear hG
  obtain ⟨x0, rfl, b0, d0⟩ := fG_ref (by decide) g0
  obtain ⟨x1, rfl, b1, d1⟩ := aG_int g1
  dsimp only at b1 d1
  obtain ⟨x2, rfl, b2, d2⟩ := aG_int g2
  dsimp only at b2 d2
  obtain ⟨x3, rfl, b3, d3⟩ := aG_int g3
  dsimp only at b3 d3
  obtain ⟨x4, rfl, b4, d4⟩ := aG_int g4
  dsimp only at b4 d4
  obtain ⟨x5, rfl, b5, d5⟩ := aG_int g5
  dsimp only at b5 d5
  obtain ⟨m1, m2, m3, m4⟩ := hM
  have l0 : 0 ≤ (1 * x4.toInt + (-1 * x5.toInt + 0)) + -2 := by
    obtain ⟨z, e6, e7⟩ := m3 ([(4, 1), (5, -1)], -2) (List.mem_of_getElem? (i := 0) rfl)
    obtain rfl : (1 * x4.toInt + (-1 * x5.toInt + 0)) = z := Option.some.inj (show some (1 * x4.toInt + (-1 * x5.toInt + 0)) = some z from e6)
    exact e7
  have f0 : fB K n p 93 [fR x0, fI x1, fI x2, fI x3, fI x4] σ := by
    obtain ⟨w, e6, e7⟩ := m4 (1493, [0, 1, 2, 3, 4]) (List.mem_of_getElem? (i := 0) rfl)
    obtain rfl : [fR x0, fI x1, fI x2, fI x3, fI x4] = w := Option.some.inj (show some [fR x0, fI x1, fI x2, fI x3, fI x4] = some w from e6)
    exact (fF_b (r := 1493) (by decide) rfl).mp e7
  have f1 : fB K n p 59 [fI x3, fI x5] σ := by
    obtain ⟨w, e6, e7⟩ := m4 (946, [3, 5]) (List.mem_of_getElem? (i := 1) rfl)
    obtain rfl : [fI x3, fI x5] = w := Option.some.inj (show some [fI x3, fI x5] = some w from e6)
    exact (fF_b (r := 946) (by decide) rfl).mp e7
  clear m1 m2 m3 m4
  obtain ⟨a9_0, lo9_0, hi9_0, r9_0, S0, C0, e9_0, T0, V0⟩ := (fL_o (by decide) (by decide)).mp f0
  cases e9_0
  obtain ⟨y0_0, y0_1, e8_0, eS0, eC0, o0, z0⟩ := T0
  cases e8_0
  subst eS0
  subst eC0
  obtain ⟨y1_0, y1_1, e8_1, h1⟩ := fOr_l ((fE_o (by decide)).mp f1) (by rintro ⟨_, _, e9, -⟩; cases e9)
  cases e8_1
  have eo : fOne (fq p).2 x3.toInt = x5.toInt := h1.symm
  have q0 : fB K n (p) 97 [fR x0, fI x1, fI x2, fI x3] σ := by
    refine (fL_o (by decide) (by decide)).mpr ⟨x0, x1, x2, _, _, _, rfl, ⟨x3, rfl, rfl, rfl, o0⟩, ?_⟩
    exact fCv_w V0 ((show _ = x1.toInt from rfl).trans (show x1.toInt = _ from rfl)) (by have e1 : fEc 93 = 0 := rfl; have e2 : fEc 97 = 0 := rfl; omega) (fun x h => h) (by
      rintro y ⟨y1, ⟨u, b, u1, u2, u3, u4, u5, hp, hy⟩ | h⟩
      · exact ⟨y1, Or.inl ⟨u, b, u1, u2, u3, u4, u5, by omega, hy⟩⟩
      · exact h.1.elim)
  exact ⟨p, fun _ => rfl, ⟨(fun q h => by cases h), fun q h => (by cases h), (fun f h => by cases h), (aAllc ⟨_, rfl, (fF_b (r := 1556) (by decide) rfl).mpr q0⟩ (fun f h => by cases h))⟩, [], List.mem_cons_self, fun f h => (by cases h)⟩
set_option maxRecDepth 8192 in
theorem rw_ruGRsSE {K : Nat → Nat} {n : Nat} : aGho (fF K n) fa_T K n (fJX K n) ag_ruGRsSE := by
  refine aGho_of ⟨rfl, rfl⟩ ?_
  intro p σ ρ hH hX hA hM
  have hG := aAG_of hA.1 (fun i e v he hv => (hA.2 i e v he hv).1)
  clear hA
  obtain ⟨v0, v1, v2, v3, v4, v5, v6, v7, v8, v9, v10, rfl, g0, g1, g2, g3, g4, g5, g6, g7, g8, g9, g10⟩ := fA_11 hG
  clear hG
  obtain ⟨x0, rfl, b0, d0⟩ := fG_ref (by decide) g0
  obtain ⟨x1, rfl, b1, d1⟩ := aG_int g1
  dsimp only at b1 d1
  obtain ⟨x2, rfl, b2, d2⟩ := aG_int g2
  dsimp only at b2 d2
  obtain ⟨x3, rfl, b3, d3⟩ := aG_int g3
  dsimp only at b3 d3
  obtain ⟨x4, rfl, b4, d4⟩ := aG_int g4
  dsimp only at b4 d4
  obtain ⟨x5, rfl, b5, d5⟩ := aG_int g5
  dsimp only at b5 d5
  obtain ⟨x6, rfl, b6, d6⟩ := fG_ref (by decide) g6
  obtain ⟨x7, rfl, b7, d7⟩ := aG_int g7
  dsimp only at b7 d7
  obtain ⟨x8, rfl, b8, d8⟩ := aG_int g8
  dsimp only at b8 d8
  obtain ⟨x9, rfl, b9, d9⟩ := aG_int g9
  dsimp only at b9 d9
  obtain ⟨x10, rfl, b10, d10⟩ := aG_int g10
  dsimp only at b10 d10
  obtain ⟨m1, m2, m3, m4⟩ := hM
  obtain ⟨a0, c0, fs0, w0, e1, s0, t0, e4⟩ := m1 (6, 2, 10) (List.mem_of_getElem? (i := 0) rfl)
  obtain rfl : x6 = a0 := Sum.inl.inj (Option.some.inj (Sum.inr.inj (Sum.inr.inj (Option.some.inj (show some (fR x6) = some _ from e1)))))
  obtain rfl : fI x10 = w0 := Option.some.inj (show some (fI x10) = some w0 from e4)
  clear e1 e4
  have l0 : 0 ≤ (1 * x2.toInt + (-512 * x4.toInt + (-8 * x5.toInt + (-8 * x8.toInt + 0)))) + 0 := by
    obtain ⟨z, e6, e7⟩ := m3 ([(2, 1), (4, -512), (5, -8), (8, -8)], 0) (List.mem_of_getElem? (i := 0) rfl)
    obtain rfl : (1 * x2.toInt + (-512 * x4.toInt + (-8 * x5.toInt + (-8 * x8.toInt + 0)))) = z := Option.some.inj (show some (1 * x2.toInt + (-512 * x4.toInt + (-8 * x5.toInt + (-8 * x8.toInt + 0)))) = some z from e6)
    exact e7
  have l1 : 0 ≤ (-1 * x2.toInt + (512 * x4.toInt + (8 * x5.toInt + (8 * x8.toInt + 0)))) + 0 := by
    obtain ⟨z, e6, e7⟩ := m3 ([(2, -1), (4, 512), (5, 8), (8, 8)], 0) (List.mem_of_getElem? (i := 1) rfl)
    obtain rfl : (-1 * x2.toInt + (512 * x4.toInt + (8 * x5.toInt + (8 * x8.toInt + 0)))) = z := Option.some.inj (show some (-1 * x2.toInt + (512 * x4.toInt + (8 * x5.toInt + (8 * x8.toInt + 0)))) = some z from e6)
    exact e7
  have l2 : 0 ≤ (1 * x1.toInt + (-1 * x3.toInt + 0)) + 0 := by
    obtain ⟨z, e6, e7⟩ := m3 ([(1, 1), (3, -1)], 0) (List.mem_of_getElem? (i := 2) rfl)
    obtain rfl : (1 * x1.toInt + (-1 * x3.toInt + 0)) = z := Option.some.inj (show some (1 * x1.toInt + (-1 * x3.toInt + 0)) = some z from e6)
    exact e7
  have l3 : 0 ≤ (1 * x8.toInt + (16 * x10.toInt + 0)) + -8 := by
    obtain ⟨z, e6, e7⟩ := m3 ([(8, 1), (10, 16)], -8) (List.mem_of_getElem? (i := 3) rfl)
    obtain rfl : (1 * x8.toInt + (16 * x10.toInt + 0)) = z := Option.some.inj (show some (1 * x8.toInt + (16 * x10.toInt + 0)) = some z from e6)
    exact e7
  have l4 : 0 ≤ (-1 * x8.toInt + (-16 * x10.toInt + 0)) + 8 := by
    obtain ⟨z, e6, e7⟩ := m3 ([(8, -1), (10, -16)], 8) (List.mem_of_getElem? (i := 4) rfl)
    obtain rfl : (-1 * x8.toInt + (-16 * x10.toInt + 0)) = z := Option.some.inj (show some (-1 * x8.toInt + (-16 * x10.toInt + 0)) = some z from e6)
    exact e7
  have l5 : 0 ≤ (1 * x4.toInt + (-40 * x10.toInt + 0)) + -8 := by
    obtain ⟨z, e6, e7⟩ := m3 ([(4, 1), (10, -40)], -8) (List.mem_of_getElem? (i := 5) rfl)
    obtain rfl : (1 * x4.toInt + (-40 * x10.toInt + 0)) = z := Option.some.inj (show some (1 * x4.toInt + (-40 * x10.toInt + 0)) = some z from e6)
    exact e7
  have l6 : 0 ≤ (-1 * x4.toInt + (40 * x10.toInt + 0)) + 15 := by
    obtain ⟨z, e6, e7⟩ := m3 ([(4, -1), (10, 40)], 15) (List.mem_of_getElem? (i := 6) rfl)
    obtain rfl : (-1 * x4.toInt + (40 * x10.toInt + 0)) = z := Option.some.inj (show some (-1 * x4.toInt + (40 * x10.toInt + 0)) = some z from e6)
    exact e7
  have f0 : fB K n p 1 [fR x6] σ := by
    obtain ⟨w, e6, e7⟩ := m4 (17, [6]) (List.mem_of_getElem? (i := 0) rfl)
    obtain rfl : [fR x6] = w := Option.some.inj (show some [fR x6] = some w from e6)
    exact (fF_b (r := 17) (by decide) rfl).mp e7
  have f1 : fB K n p 97 [fR x0, fI x3, fI x1, fI x4] σ := by
    obtain ⟨w, e6, e7⟩ := m4 (1556, [0, 3, 1, 4]) (List.mem_of_getElem? (i := 1) rfl)
    obtain rfl : [fR x0, fI x3, fI x1, fI x4] = w := Option.some.inj (show some [fR x0, fI x3, fI x1, fI x4] = some w from e6)
    exact (fF_b (r := 1556) (by decide) rfl).mp e7
  have f2 : fB K n p 39 [fI x5, fI x7] σ := by
    obtain ⟨w, e6, e7⟩ := m4 (626, [5, 7]) (List.mem_of_getElem? (i := 2) rfl)
    obtain rfl : [fI x5, fI x7] = w := Option.some.inj (show some [fI x5, fI x7] = some w from e6)
    exact (fF_b (r := 626) (by decide) rfl).mp e7
  have f3 : fB K n p 59 [fI x4, fI x4, fI x9] σ := by
    obtain ⟨w, e6, e7⟩ := m4 (947, [4, 4, 9]) (List.mem_of_getElem? (i := 3) rfl)
    obtain rfl : [fI x4, fI x4, fI x9] = w := Option.some.inj (show some [fI x4, fI x4, fI x9] = some w from e6)
    exact (fF_b (r := 947) (by decide) rfl).mp e7
  have f4 : fB K n p 59 [fI x4, fI x5] σ := by
    obtain ⟨w, e6, e7⟩ := m4 (946, [4, 5]) (List.mem_of_getElem? (i := 4) rfl)
    obtain rfl : [fI x4, fI x5] = w := Option.some.inj (show some [fI x4, fI x5] = some w from e6)
    exact (fF_b (r := 946) (by decide) rfl).mp e7
  clear m1 m2 m3 m4
  obtain ⟨a9_0, e9_0, h0, g0⟩ := f0
  cases e9_0
  obtain ⟨a9_1, lo9_1, hi9_1, r9_1, S1, C1, e9_1, T1, V1⟩ := (fL_o (by decide) (by decide)).mp f1
  cases e9_1
  obtain ⟨y1_0, e8_1, eS1, eC1, o1⟩ := T1
  cases e8_1
  subst eS1
  subst eC1
  obtain ⟨y2_0, y2_1, e9_2, h2⟩ := f2
  cases e9_2
  obtain ⟨y3_0, y3_1, e8_3, h3⟩ := fOr_r ((fE_o (by decide)).mp f3) (by rintro ⟨_, _, e9, -⟩; cases e9)
  cases e8_3
  obtain ⟨y4_0, y4_1, e8_4, h4⟩ := fOr_l ((fE_o (by decide)).mp f4) (by rintro ⟨_, _, e9, -⟩; cases e9)
  cases e8_4
  have hF := fAt_of h0 s0
  have hsd := hF.2.1 x10 t0
  have hsi : ((fq p).2 2).toInt = x10.toInt := by rw [← hsd]
  have eo : fOne (fq p).2 x4.toInt = x5.toInt := h4.symm
  rw [fNc] at h2
  have q0 : fB K n (p) 98 [fR x0, fI x3, fI x1, fI x4] (jup σ x0 (jsto (σ x0) x1.toNatClampNeg x2)) := by
    refine (fL_o (by decide) (by decide)).mpr ⟨x0, x3, x1, _, _, _, rfl, ⟨x4, rfl, rfl, rfl⟩, ?_⟩
    exact fCv_st V1 (by rw [fNc]; have e1 : fEc 97 = 0 := rfl; omega) (by have e1 : fEc 97 = 0 := rfl; show x3.toInt ≤ _; omega) (by have e1 : fEc 97 = 0 := rfl; have e2 : fEc 98 = 1 := rfl; omega) (⟨o1, Or.inr ⟨trivial, by omega, by rw [eo, h2]; omega, by rw [h3]; omega, by omega⟩⟩) (by
      rintro y ⟨y1, hy | ⟨-, hc1, hc2, hc3, hy⟩⟩
      · exact Or.inl ⟨y1, Or.inl hy⟩
      · exact Or.inr (fI32 (by rw [hy]; omega)))
  exact ⟨p, fun _ => rfl, ⟨(fun q h => by cases h), fun q h => (by cases h), (fun f h => by cases h), (aAllc ⟨_, rfl, fF_p (r := 1572) (by decide) (by decide) rfl q0⟩ (fun f h => by cases h))⟩, [], List.mem_cons_self, fun f h => (by cases h)⟩
set_option maxRecDepth 8192 in
theorem rw_ruGRnSE {K : Nat → Nat} {n : Nat} : aGho (fF K n) fa_T K n (fJX K n) ag_ruGRnSE := by
  refine aGho_of ⟨rfl, rfl⟩ ?_
  intro p σ ρ hH hX hA hM
  have hG := aAG_of hA.1 (fun i e v he hv => (hA.2 i e v he hv).1)
  clear hA
  obtain ⟨v0, v1, v2, v3, v4, rfl, g0, g1, g2, g3, g4⟩ := fA_5 hG
  clear hG
  obtain ⟨x0, rfl, b0, d0⟩ := fG_ref (by decide) g0
  obtain ⟨x1, rfl, b1, d1⟩ := aG_int g1
  dsimp only at b1 d1
  obtain ⟨x2, rfl, b2, d2⟩ := aG_int g2
  dsimp only at b2 d2
  obtain ⟨x3, rfl, b3, d3⟩ := aG_int g3
  dsimp only at b3 d3
  obtain ⟨x4, rfl, b4, d4⟩ := aG_int g4
  dsimp only at b4 d4
  obtain ⟨m1, m2, m3, m4⟩ := hM
  have l0 : 0 ≤ (1 * x4.toInt + (-1 * x2.toInt + 0)) + -1 := by
    obtain ⟨z, e6, e7⟩ := m3 ([(4, 1), (2, -1)], -1) (List.mem_of_getElem? (i := 0) rfl)
    obtain rfl : (1 * x4.toInt + (-1 * x2.toInt + 0)) = z := Option.some.inj (show some (1 * x4.toInt + (-1 * x2.toInt + 0)) = some z from e6)
    exact e7
  have l1 : 0 ≤ (-1 * x4.toInt + (1 * x2.toInt + 0)) + 1 := by
    obtain ⟨z, e6, e7⟩ := m3 ([(4, -1), (2, 1)], 1) (List.mem_of_getElem? (i := 1) rfl)
    obtain rfl : (-1 * x4.toInt + (1 * x2.toInt + 0)) = z := Option.some.inj (show some (-1 * x4.toInt + (1 * x2.toInt + 0)) = some z from e6)
    exact e7
  have f0 : fB K n p 98 [fR x0, fI x1, fI x2, fI x3] σ := by
    obtain ⟨w, e6, e7⟩ := m4 (1572, [0, 1, 2, 3]) (List.mem_of_getElem? (i := 0) rfl)
    obtain rfl : [fR x0, fI x1, fI x2, fI x3] = w := Option.some.inj (show some [fR x0, fI x1, fI x2, fI x3] = some w from e6)
    exact (fF_b (r := 1572) (by decide) rfl).mp e7
  have f1 : fB K n p 34 [fI x3] σ := by
    obtain ⟨w, e6, e7⟩ := m4 (545, [3]) (List.mem_of_getElem? (i := 1) rfl)
    obtain rfl : [fI x3] = w := Option.some.inj (show some [fI x3] = some w from e6)
    exact (fF_b (r := 545) (by decide) rfl).mp e7
  clear m1 m2 m3 m4
  obtain ⟨a9_0, lo9_0, hi9_0, r9_0, S0, C0, e9_0, T0, V0⟩ := (fL_o (by decide) (by decide)).mp f0
  cases e9_0
  obtain ⟨y0_0, e8_0, eS0, eC0⟩ := T0
  cases e8_0
  subst eS0
  subst eC0
  obtain ⟨y1_0, e9_1, h1⟩ := f1
  cases e9_1
  have hmk : ((fq p).1 x3.toInt.toNat).toInt % 8 = 1 := by
    unfold fOw at h1
    rw [fNc] at h1
    rw [h1]
    omega
  have q0 : fB K n (p) 81 [fR x0, fI x1, fI x4, fI x3] σ := by
    refine (fL_o (by decide) (by decide)).mpr ⟨x0, x1, x4, _, _, _, rfl, (Or.inl ⟨x3, rfl, rfl, rfl⟩), ?_⟩
    exact fCv_w V0 ((show _ = x1.toInt from rfl).trans (show x1.toInt = _ from rfl)) (by have e1 : fEc 98 = 1 := rfl; have e2 : fEc 81 = 0 := rfl; omega) (fun x h => Or.inl ⟨hmk, h⟩) (by
      intro y hy
      unfold fGn at hy
      rw [hmk] at hy
      rcases hy with ⟨-, hy⟩ | hy | hy | hy
      · exact hy
      · omega
      · omega
      · omega)
  exact ⟨p, fun _ => rfl, ⟨(fun q h => by cases h), fun q h => (by cases h), (fun f h => by cases h), (aAllc ⟨_, rfl, (fF_b (r := 1300) (by decide) rfl).mpr q0⟩ (fun f h => by cases h))⟩, [], List.mem_cons_self, fun f h => (by cases h)⟩
set_option maxRecDepth 8192 in
theorem rw_ruGRrSE {K : Nat → Nat} {n : Nat} : aGho (fF K n) fa_T K n (fJX K n) ag_ruGRrSE := by
  refine aGho_of ⟨rfl, rfl⟩ ?_
  intro p σ ρ hH hX hA hM
  have hG := aAG_of hA.1 (fun i e v he hv => (hA.2 i e v he hv).1)
  clear hA
  obtain ⟨v0, v1, v2, v3, rfl, g0, g1, g2, g3⟩ := fA_4 hG
  clear hG
  obtain ⟨x0, rfl, b0, d0⟩ := fG_ref (by decide) g0
  obtain ⟨x1, rfl, b1, d1⟩ := aG_int g1
  dsimp only at b1 d1
  obtain ⟨x2, rfl, b2, d2⟩ := aG_int g2
  dsimp only at b2 d2
  obtain ⟨x3, rfl, b3, d3⟩ := aG_int g3
  dsimp only at b3 d3
  obtain ⟨m1, m2, m3, m4⟩ := hM
  have f0 : fB K n p 58 [fI x3] σ := by
    obtain ⟨w, e6, e7⟩ := m4 (929, [3]) (List.mem_of_getElem? (i := 0) rfl)
    obtain rfl : [fI x3] = w := Option.some.inj (show some [fI x3] = some w from e6)
    exact (fF_b (r := 929) (by decide) rfl).mp e7
  have f1 : fB K n p 97 [fR x0, fI x1, fI x2, fI x3] σ := by
    obtain ⟨w, e6, e7⟩ := m4 (1556, [0, 1, 2, 3]) (List.mem_of_getElem? (i := 1) rfl)
    obtain rfl : [fR x0, fI x1, fI x2, fI x3] = w := Option.some.inj (show some [fR x0, fI x1, fI x2, fI x3] = some w from e6)
    exact (fF_b (r := 1556) (by decide) rfl).mp e7
  have f2 : fB K n p 34 [fI x3] σ := by
    obtain ⟨w, e6, e7⟩ := m4 (545, [3]) (List.mem_of_getElem? (i := 2) rfl)
    obtain rfl : [fI x3] = w := Option.some.inj (show some [fI x3] = some w from e6)
    exact (fF_b (r := 545) (by decide) rfl).mp e7
  clear m1 m2 m3 m4
  obtain ⟨y0_0, e8_0, h0⟩ := fOr_r ((fE_o (by decide)).mp f0) (by rintro ⟨_, _, e9, -⟩; cases e9)
  cases e8_0
  obtain ⟨a9_1, lo9_1, hi9_1, r9_1, S1, C1, e9_1, T1, V1⟩ := (fL_o (by decide) (by decide)).mp f1
  cases e9_1
  obtain ⟨y1_0, e8_1, eS1, eC1, o1⟩ := T1
  cases e8_1
  subst eS1
  subst eC1
  obtain ⟨y2_0, e9_2, h2⟩ := f2
  cases e9_2
  have hmk : ((fq p).1 x3.toInt.toNat).toInt % 8 = 1 := by
    unfold fOw at h2
    rw [fNc] at h2
    rw [h2]
    omega
  have q0 : fB K n (p) 81 [fR x0, fI x1, fI x2, fI x3] σ := by
    refine (fL_o (by decide) (by decide)).mpr ⟨x0, x1, x2, _, _, _, rfl, (Or.inl ⟨x3, rfl, rfl, rfl⟩), ?_⟩
    exact fCv_w V1 ((show _ = x1.toInt from rfl).trans (show x1.toInt = _ from rfl)) (by have e1 : fEc 97 = 0 := rfl; have e2 : fEc 81 = 0 := rfl; omega) (fun x h => Or.inl ⟨hmk, h⟩) (by
      intro y hy
      unfold fGn at hy
      rw [hmk] at hy
      rcases hy with ⟨-, y1, hy | ⟨-, hc1, hc2, hc3, hy⟩⟩ | hy | hy | hy
      · exact ⟨y1, Or.inl hy⟩
      · exfalso
        exact h0 hc1
      · omega
      · omega
      · omega)
  exact ⟨p, fun _ => rfl, ⟨(fun q h => by cases h), fun q h => (by cases h), (fun f h => by cases h), (aAllc ⟨_, rfl, (fF_b (r := 1300) (by decide) rfl).mpr q0⟩ (fun f h => by cases h))⟩, [], List.mem_cons_self, fun f h => (by cases h)⟩
set_option maxRecDepth 8192 in
theorem rw_ruGR1SE {K : Nat → Nat} {n : Nat} : aGho (fF K n) fa_T K n (fJX K n) ag_ruGR1SE := by
  refine aGho_of ⟨rfl, rfl⟩ ?_
  intro p σ ρ hH hX hA hM
  have hG := aAG_of hA.1 (fun i e v he hv => (hA.2 i e v he hv).1)
  clear hA
  obtain ⟨v0, v1, v2, v3, v4, v5, rfl, g0, g1, g2, g3, g4, g5⟩ := fA_6 hG
  clear hG
  obtain ⟨x0, rfl, b0, d0⟩ := fG_ref (by decide) g0
  obtain ⟨x1, rfl, b1, d1⟩ := aG_int g1
  dsimp only at b1 d1
  obtain ⟨x2, rfl, b2, d2⟩ := aG_int g2
  dsimp only at b2 d2
  obtain ⟨x3, rfl, b3, d3⟩ := aG_int g3
  dsimp only at b3 d3
  obtain ⟨x4, rfl, b4, d4⟩ := aG_int g4
  dsimp only at b4 d4
  obtain ⟨x5, rfl, b5, d5⟩ := aG_int g5
  dsimp only at b5 d5
  obtain ⟨m1, m2, m3, m4⟩ := hM
  have f0 : fB K n p 97 [fR x0, fI x1, fI x2, fI x3] σ := by
    obtain ⟨w, e6, e7⟩ := m4 (1556, [0, 1, 2, 3]) (List.mem_of_getElem? (i := 0) rfl)
    obtain rfl : [fR x0, fI x1, fI x2, fI x3] = w := Option.some.inj (show some [fR x0, fI x1, fI x2, fI x3] = some w from e6)
    exact (fF_b (r := 1556) (by decide) rfl).mp e7
  have f1 : fB K n p 39 [fI x4, fI x5] σ := by
    obtain ⟨w, e6, e7⟩ := m4 (626, [4, 5]) (List.mem_of_getElem? (i := 1) rfl)
    obtain rfl : [fI x4, fI x5] = w := Option.some.inj (show some [fI x4, fI x5] = some w from e6)
    exact (fF_b (r := 626) (by decide) rfl).mp e7
  have f2 : fB K n p 59 [fI x3, fI x4] σ := by
    obtain ⟨w, e6, e7⟩ := m4 (946, [3, 4]) (List.mem_of_getElem? (i := 2) rfl)
    obtain rfl : [fI x3, fI x4] = w := Option.some.inj (show some [fI x3, fI x4] = some w from e6)
    exact (fF_b (r := 946) (by decide) rfl).mp e7
  have f3 : fB K n p 34 [fI x3] σ := by
    obtain ⟨w, e6, e7⟩ := m4 (545, [3]) (List.mem_of_getElem? (i := 3) rfl)
    obtain rfl : [fI x3] = w := Option.some.inj (show some [fI x3] = some w from e6)
    exact (fF_b (r := 545) (by decide) rfl).mp e7
  clear m1 m2 m3 m4
  obtain ⟨a9_0, lo9_0, hi9_0, r9_0, S0, C0, e9_0, T0, V0⟩ := (fL_o (by decide) (by decide)).mp f0
  cases e9_0
  obtain ⟨y0_0, e8_0, eS0, eC0, o0⟩ := T0
  cases e8_0
  subst eS0
  subst eC0
  obtain ⟨y1_0, y1_1, e9_1, h1⟩ := f1
  cases e9_1
  obtain ⟨y2_0, y2_1, e8_2, h2⟩ := fOr_l ((fE_o (by decide)).mp f2) (by rintro ⟨_, _, e9, -⟩; cases e9)
  cases e8_2
  obtain ⟨y3_0, e9_3, h3⟩ := f3
  cases e9_3
  have hmk : ((fq p).1 x3.toInt.toNat).toInt % 8 = 1 := by
    unfold fOw at h3
    rw [fNc] at h3
    rw [h3]
    omega
  have eo : fOne (fq p).2 x3.toInt = x4.toInt := h2.symm
  rw [fNc] at h1
  have q0 : fB K n (p) 81 [fR x0, fI x1, fI x2, fI x3] σ := by
    refine (fL_o (by decide) (by decide)).mpr ⟨x0, x1, x2, _, _, _, rfl, (Or.inl ⟨x3, rfl, rfl, rfl⟩), ?_⟩
    exact fCv_w V0 ((show _ = x1.toInt from rfl).trans (show x1.toInt = _ from rfl)) (by have e1 : fEc 97 = 0 := rfl; have e2 : fEc 81 = 0 := rfl; omega) (fun x h => Or.inl ⟨hmk, h⟩) (by
      intro y hy
      unfold fGn at hy
      rw [hmk] at hy
      rcases hy with ⟨-, y1, hy | ⟨-, hc1, hc2, hc3, hy⟩⟩ | hy | hy | hy
      · exact ⟨y1, Or.inl hy⟩
      · exfalso
        rw [eo, h1] at hc2
        omega
      · omega
      · omega
      · omega)
  exact ⟨p, fun _ => rfl, ⟨(fun q h => by cases h), fun q h => (by cases h), (fun f h => by cases h), (aAllc ⟨_, rfl, (fF_b (r := 1300) (by decide) rfl).mpr q0⟩ (fun f h => by cases h))⟩, [], List.mem_cons_self, fun f h => (by cases h)⟩
set_option maxRecDepth 8192 in
theorem rw_ruGR2SE {K : Nat → Nat} {n : Nat} : aGho (fF K n) fa_T K n (fJX K n) ag_ruGR2SE := by
  refine aGho_of ⟨rfl, rfl⟩ ?_
  intro p σ ρ hH hX hA hM
  have hG := aAG_of hA.1 (fun i e v he hv => (hA.2 i e v he hv).1)
  clear hA
  obtain ⟨v0, v1, v2, v3, v4, rfl, g0, g1, g2, g3, g4⟩ := fA_5 hG
  clear hG
  obtain ⟨x0, rfl, b0, d0⟩ := fG_ref (by decide) g0
  obtain ⟨x1, rfl, b1, d1⟩ := aG_int g1
  dsimp only at b1 d1
  obtain ⟨x2, rfl, b2, d2⟩ := aG_int g2
  dsimp only at b2 d2
  obtain ⟨x3, rfl, b3, d3⟩ := aG_int g3
  dsimp only at b3 d3
  obtain ⟨x4, rfl, b4, d4⟩ := aG_int g4
  dsimp only at b4 d4
  obtain ⟨m1, m2, m3, m4⟩ := hM
  have f0 : fB K n p 97 [fR x0, fI x1, fI x2, fI x3] σ := by
    obtain ⟨w, e6, e7⟩ := m4 (1556, [0, 1, 2, 3]) (List.mem_of_getElem? (i := 0) rfl)
    obtain rfl : [fR x0, fI x1, fI x2, fI x3] = w := Option.some.inj (show some [fR x0, fI x1, fI x2, fI x3] = some w from e6)
    exact (fF_b (r := 1556) (by decide) rfl).mp e7
  have f1 : fB K n p 59 [fI x3, fI x3, fI x4] σ := by
    obtain ⟨w, e6, e7⟩ := m4 (947, [3, 3, 4]) (List.mem_of_getElem? (i := 1) rfl)
    obtain rfl : [fI x3, fI x3, fI x4] = w := Option.some.inj (show some [fI x3, fI x3, fI x4] = some w from e6)
    exact (fF_b (r := 947) (by decide) rfl).mp e7
  have f2 : fB K n p 34 [fI x3] σ := by
    obtain ⟨w, e6, e7⟩ := m4 (545, [3]) (List.mem_of_getElem? (i := 2) rfl)
    obtain rfl : [fI x3] = w := Option.some.inj (show some [fI x3] = some w from e6)
    exact (fF_b (r := 545) (by decide) rfl).mp e7
  clear m1 m2 m3 m4
  obtain ⟨a9_0, lo9_0, hi9_0, r9_0, S0, C0, e9_0, T0, V0⟩ := (fL_o (by decide) (by decide)).mp f0
  cases e9_0
  obtain ⟨y0_0, e8_0, eS0, eC0, o0⟩ := T0
  cases e8_0
  subst eS0
  subst eC0
  obtain ⟨y1_0, y1_1, e8_1, h1⟩ := fOr_r ((fE_o (by decide)).mp f1) (by rintro ⟨_, _, e9, -⟩; cases e9)
  cases e8_1
  obtain ⟨y2_0, e9_2, h2⟩ := f2
  cases e9_2
  have hmk : ((fq p).1 x3.toInt.toNat).toInt % 8 = 1 := by
    unfold fOw at h2
    rw [fNc] at h2
    rw [h2]
    omega
  have q0 : fB K n (p) 81 [fR x0, fI x1, fI x2, fI x3] σ := by
    refine (fL_o (by decide) (by decide)).mpr ⟨x0, x1, x2, _, _, _, rfl, (Or.inl ⟨x3, rfl, rfl, rfl⟩), ?_⟩
    exact fCv_w V0 ((show _ = x1.toInt from rfl).trans (show x1.toInt = _ from rfl)) (by have e1 : fEc 97 = 0 := rfl; have e2 : fEc 81 = 0 := rfl; omega) (fun x h => Or.inl ⟨hmk, h⟩) (by
      intro y hy
      unfold fGn at hy
      rw [hmk] at hy
      rcases hy with ⟨-, y1, hy | ⟨-, hc1, hc2, hc3, hy⟩⟩ | hy | hy | hy
      · exact ⟨y1, Or.inl hy⟩
      · exfalso
        rw [h1] at hc3
        omega
      · omega
      · omega
      · omega)
  exact ⟨p, fun _ => rfl, ⟨(fun q h => by cases h), fun q h => (by cases h), (fun f h => by cases h), (aAllc ⟨_, rfl, (fF_b (r := 1300) (by decide) rfl).mpr q0⟩ (fun f h => by cases h))⟩, [], List.mem_cons_self, fun f h => (by cases h)⟩
set_option maxRecDepth 8192 in
theorem rw_ruGSaEN {K : Nat → Nat} {n : Nat} : aGho (fF K n) fa_T K n (fJX K n) ag_ruGSaEN := by
  refine aGho_of ⟨rfl, rfl⟩ ?_
  intro p σ ρ hH hX hA hM
  have hG := aAG_of hA.1 (fun i e v he hv => (hA.2 i e v he hv).1)
  clear hA
  obtain ⟨v0, v1, v2, v3, v4, rfl, g0, g1, g2, g3, g4⟩ := fA_5 hG
  clear hG
  obtain ⟨x0, rfl, b0, d0⟩ := fG_ref (by decide) g0
  obtain ⟨x1, rfl, b1, d1⟩ := aG_int g1
  dsimp only at b1 d1
  obtain ⟨x2, rfl, b2, d2⟩ := aG_int g2
  dsimp only at b2 d2
  obtain ⟨x3, rfl, b3, d3⟩ := aG_int g3
  dsimp only at b3 d3
  obtain ⟨x4, rfl, b4, d4⟩ := aG_int g4
  dsimp only at b4 d4
  obtain ⟨m1, m2, m3, m4⟩ := hM
  clear m1 m2 m3 m4
  have q0 : fB K n (p) 77 [fR x0, fI x1, fI x1, fI x2, fI x3, fI x4] σ := by
    obtain ⟨g, hg9⟩ := fRow hH b0 d0 rfl (by decide)
    refine (fL_o (by decide) (by decide)).mpr ⟨x0, x1, x1, _, _, _, rfl, ⟨x2, x3, x4, rfl, rfl, rfl, by omega⟩, ?_⟩
    exact fCv_0 b0 (by unfold fRw; omega) hg9 (by have e1 : fEc 77 = 0 := rfl; show x1.toInt + fEc 77 ≤ x1.toInt; omega) (by
      rintro x ⟨j, q, hs, hp, -⟩
      have := hs.1
      have := hs.2.2.1
      omega)
  exact ⟨p, fun _ => rfl, ⟨(fun q h => by cases h), fun q h => (by cases h), (fun f h => by cases h), (aAllc ⟨_, rfl, (fF_b (r := 1238) (by decide) rfl).mpr q0⟩ (fun f h => by cases h))⟩, [], List.mem_cons_self, fun f h => (by cases h)⟩
set_option maxRecDepth 8192 in
theorem rw_ruGScEN {K : Nat → Nat} {n : Nat} : aGho (fF K n) fa_T K n (fJX K n) ag_ruGScEN := by
  refine aGho_of ⟨rfl, rfl⟩ ?_
  intro p σ ρ hH hX hA hM
  have hG := aAG_of hA.1 (fun i e v he hv => (hA.2 i e v he hv).1)
  clear hA
  obtain ⟨v0, v1, v2, v3, v4, rfl, g0, g1, g2, g3, g4⟩ := fA_5 hG
  clear hG
  obtain ⟨x0, rfl, b0, d0⟩ := fG_ref (by decide) g0
  obtain ⟨x1, rfl, b1, d1⟩ := aG_int g1
  dsimp only at b1 d1
  obtain ⟨x2, rfl, b2, d2⟩ := aG_int g2
  dsimp only at b2 d2
  obtain ⟨x3, rfl, b3, d3⟩ := aG_int g3
  dsimp only at b3 d3
  obtain ⟨x4, rfl, b4, d4⟩ := aG_int g4
  dsimp only at b4 d4
  obtain ⟨m1, m2, m3, m4⟩ := hM
  clear m1 m2 m3 m4
  have q0 : fB K n (p) 77 [fR x0, fI x1, fI x1, fI x2, fI x3, fI x4] σ := by
    obtain ⟨g, hg9⟩ := fRow hH b0 d0 rfl (by decide)
    refine (fL_o (by decide) (by decide)).mpr ⟨x0, x1, x1, _, _, _, rfl, ⟨x2, x3, x4, rfl, rfl, rfl, by omega⟩, ?_⟩
    exact fCv_0 b0 (by unfold fRw; omega) hg9 (by have e1 : fEc 77 = 0 := rfl; show x1.toInt + fEc 77 ≤ x1.toInt; omega) (by
      rintro x ⟨j, q, hs, hp, -⟩
      have := hs.1
      have := hs.2.2.1
      omega)
  exact ⟨p, fun _ => rfl, ⟨(fun q h => by cases h), fun q h => (by cases h), (fun f h => by cases h), (aAllc ⟨_, rfl, (fF_b (r := 1238) (by decide) rfl).mpr q0⟩ (fun f h => by cases h))⟩, [], List.mem_cons_self, fun f h => (by cases h)⟩
set_option maxRecDepth 8192 in
theorem rw_ruGSk3EN {K : Nat → Nat} {n : Nat} : aGho (fF K n) fa_T K n (fJX K n) ag_ruGSk3EN := by
  refine aGho_of ⟨rfl, rfl⟩ ?_
  intro p σ ρ hH hX hA hM
  have hG := aAG_of hA.1 (fun i e v he hv => (hA.2 i e v he hv).1)
  clear hA
  obtain ⟨v0, v1, v2, v3, v4, v5, v6, rfl, g0, g1, g2, g3, g4, g5, g6⟩ := fA_7 hG
  clear hG
  obtain ⟨x0, rfl, b0, d0⟩ := fG_ref (by decide) g0
  obtain ⟨x1, rfl, b1, d1⟩ := aG_int g1
  dsimp only at b1 d1
  obtain ⟨x2, rfl, b2, d2⟩ := aG_int g2
  dsimp only at b2 d2
  obtain ⟨x3, rfl, b3, d3⟩ := aG_int g3
  dsimp only at b3 d3
  obtain ⟨x4, rfl, b4, d4⟩ := aG_int g4
  dsimp only at b4 d4
  obtain ⟨x5, rfl, b5, d5⟩ := aG_int g5
  dsimp only at b5 d5
  obtain ⟨x6, rfl, b6, d6⟩ := aG_int g6
  dsimp only at b6 d6
  obtain ⟨m1, m2, m3, m4⟩ := hM
  have f0 : fB K n p 77 [fR x0, fI x1, fI x2, fI x3, fI x4, fI x5] σ := by
    obtain ⟨w, e6, e7⟩ := m4 (1238, [0, 1, 2, 3, 4, 5]) (List.mem_of_getElem? (i := 0) rfl)
    obtain rfl : [fR x0, fI x1, fI x2, fI x3, fI x4, fI x5] = w := Option.some.inj (show some [fR x0, fI x1, fI x2, fI x3, fI x4, fI x5] = some w from e6)
    exact (fF_b (r := 1238) (by decide) rfl).mp e7
  clear m1 m2 m3 m4
  obtain ⟨a9_0, lo9_0, hi9_0, r9_0, S0, C0, e9_0, T0, V0⟩ := (fL_o (by decide) (by decide)).mp f0
  cases e9_0
  obtain ⟨y0_0, y0_1, y0_2, e8_0, eS0, eC0, z0⟩ := T0
  cases e8_0
  subst eS0
  subst eC0
  have q0 : fB K n (p) 78 [fR x0, fI x1, fI x2, fI x3, fI x4, fI x5, fI x6] σ := by
    refine (fL_o (by decide) (by decide)).mpr ⟨x0, x1, x2, _, _, _, rfl, ⟨x3, x4, x5, x6, rfl, rfl, rfl, fun q h1 h2 => by omega, z0, by omega⟩, ?_⟩
    exact fCv_w V0 ((show _ = x1.toInt from rfl).trans (show x1.toInt = _ from rfl)) (by have e1 : fEc 77 = 0 := rfl; have e2 : fEc 78 = 0 := rfl; omega) (fun x h => h) (by
      rintro x ⟨j, q, hs, hp, hx⟩
      have := hs.2.2.2.2.1
      exact ⟨j, q, hs, by omega, hx⟩)
  exact ⟨p, fun _ => rfl, ⟨(fun q h => by cases h), fun q h => (by cases h), (fun f h => by cases h), (aAllc ⟨_, rfl, (fF_b (r := 1255) (by decide) rfl).mpr q0⟩ (fun f h => by cases h))⟩, [], List.mem_cons_self, fun f h => (by cases h)⟩
set_option maxRecDepth 8192 in
theorem rw_ruGSk4EN {K : Nat → Nat} {n : Nat} : aGho (fF K n) fa_T K n (fJX K n) ag_ruGSk4EN := by
  refine aGho_of ⟨rfl, rfl⟩ ?_
  intro p σ ρ hH hX hA hM
  have hG := aAG_of hA.1 (fun i e v he hv => (hA.2 i e v he hv).1)
  clear hA
  obtain ⟨v0, v1, v2, v3, v4, v5, v6, rfl, g0, g1, g2, g3, g4, g5, g6⟩ := fA_7 hG
  clear hG
  obtain ⟨x0, rfl, b0, d0⟩ := fG_ref (by decide) g0
  obtain ⟨x1, rfl, b1, d1⟩ := aG_int g1
  dsimp only at b1 d1
  obtain ⟨x2, rfl, b2, d2⟩ := aG_int g2
  dsimp only at b2 d2
  obtain ⟨x3, rfl, b3, d3⟩ := aG_int g3
  dsimp only at b3 d3
  obtain ⟨x4, rfl, b4, d4⟩ := aG_int g4
  dsimp only at b4 d4
  obtain ⟨x5, rfl, b5, d5⟩ := aG_int g5
  dsimp only at b5 d5
  obtain ⟨x6, rfl, b6, d6⟩ := aG_int g6
  dsimp only at b6 d6
  obtain ⟨m1, m2, m3, m4⟩ := hM
  have f0 : fB K n p 77 [fR x0, fI x1, fI x2, fI x3, fI x4, fI x5] σ := by
    obtain ⟨w, e6, e7⟩ := m4 (1238, [0, 1, 2, 3, 4, 5]) (List.mem_of_getElem? (i := 0) rfl)
    obtain rfl : [fR x0, fI x1, fI x2, fI x3, fI x4, fI x5] = w := Option.some.inj (show some [fR x0, fI x1, fI x2, fI x3, fI x4, fI x5] = some w from e6)
    exact (fF_b (r := 1238) (by decide) rfl).mp e7
  clear m1 m2 m3 m4
  obtain ⟨a9_0, lo9_0, hi9_0, r9_0, S0, C0, e9_0, T0, V0⟩ := (fL_o (by decide) (by decide)).mp f0
  cases e9_0
  obtain ⟨y0_0, y0_1, y0_2, e8_0, eS0, eC0, z0⟩ := T0
  cases e8_0
  subst eS0
  subst eC0
  have q0 : fB K n (p) 78 [fR x0, fI x1, fI x2, fI x3, fI x4, fI x5, fI x6] σ := by
    refine (fL_o (by decide) (by decide)).mpr ⟨x0, x1, x2, _, _, _, rfl, ⟨x3, x4, x5, x6, rfl, rfl, rfl, fun q h1 h2 => by omega, z0, by omega⟩, ?_⟩
    exact fCv_w V0 ((show _ = x1.toInt from rfl).trans (show x1.toInt = _ from rfl)) (by have e1 : fEc 77 = 0 := rfl; have e2 : fEc 78 = 0 := rfl; omega) (fun x h => h) (by
      rintro x ⟨j, q, hs, hp, hx⟩
      have := hs.2.2.2.2.1
      exact ⟨j, q, hs, by omega, hx⟩)
  exact ⟨p, fun _ => rfl, ⟨(fun q h => by cases h), fun q h => (by cases h), (fun f h => by cases h), (aAllc ⟨_, rfl, (fF_b (r := 1255) (by decide) rfl).mpr q0⟩ (fun f h => by cases h))⟩, [], List.mem_cons_self, fun f h => (by cases h)⟩
set_option maxRecDepth 8192 in
theorem rw_ruGSk5EN {K : Nat → Nat} {n : Nat} : aGho (fF K n) fa_T K n (fJX K n) ag_ruGSk5EN := by
  refine aGho_of ⟨rfl, rfl⟩ ?_
  intro p σ ρ hH hX hA hM
  have hG := aAG_of hA.1 (fun i e v he hv => (hA.2 i e v he hv).1)
  clear hA
  obtain ⟨v0, v1, v2, v3, v4, v5, v6, rfl, g0, g1, g2, g3, g4, g5, g6⟩ := fA_7 hG
  clear hG
  obtain ⟨x0, rfl, b0, d0⟩ := fG_ref (by decide) g0
  obtain ⟨x1, rfl, b1, d1⟩ := aG_int g1
  dsimp only at b1 d1
  obtain ⟨x2, rfl, b2, d2⟩ := aG_int g2
  dsimp only at b2 d2
  obtain ⟨x3, rfl, b3, d3⟩ := aG_int g3
  dsimp only at b3 d3
  obtain ⟨x4, rfl, b4, d4⟩ := aG_int g4
  dsimp only at b4 d4
  obtain ⟨x5, rfl, b5, d5⟩ := aG_int g5
  dsimp only at b5 d5
  obtain ⟨x6, rfl, b6, d6⟩ := aG_int g6
  dsimp only at b6 d6
  obtain ⟨m1, m2, m3, m4⟩ := hM
  have f0 : fB K n p 77 [fR x0, fI x1, fI x2, fI x3, fI x4, fI x5] σ := by
    obtain ⟨w, e6, e7⟩ := m4 (1238, [0, 1, 2, 3, 4, 5]) (List.mem_of_getElem? (i := 0) rfl)
    obtain rfl : [fR x0, fI x1, fI x2, fI x3, fI x4, fI x5] = w := Option.some.inj (show some [fR x0, fI x1, fI x2, fI x3, fI x4, fI x5] = some w from e6)
    exact (fF_b (r := 1238) (by decide) rfl).mp e7
  clear m1 m2 m3 m4
  obtain ⟨a9_0, lo9_0, hi9_0, r9_0, S0, C0, e9_0, T0, V0⟩ := (fL_o (by decide) (by decide)).mp f0
  cases e9_0
  obtain ⟨y0_0, y0_1, y0_2, e8_0, eS0, eC0, z0⟩ := T0
  cases e8_0
  subst eS0
  subst eC0
  have q0 : fB K n (p) 78 [fR x0, fI x1, fI x2, fI x3, fI x4, fI x5, fI x6] σ := by
    refine (fL_o (by decide) (by decide)).mpr ⟨x0, x1, x2, _, _, _, rfl, ⟨x3, x4, x5, x6, rfl, rfl, rfl, fun q h1 h2 => by omega, z0, by omega⟩, ?_⟩
    exact fCv_w V0 ((show _ = x1.toInt from rfl).trans (show x1.toInt = _ from rfl)) (by have e1 : fEc 77 = 0 := rfl; have e2 : fEc 78 = 0 := rfl; omega) (fun x h => h) (by
      rintro x ⟨j, q, hs, hp, hx⟩
      have := hs.2.2.2.2.1
      exact ⟨j, q, hs, by omega, hx⟩)
  exact ⟨p, fun _ => rfl, ⟨(fun q h => by cases h), fun q h => (by cases h), (fun f h => by cases h), (aAllc ⟨_, rfl, (fF_b (r := 1255) (by decide) rfl).mpr q0⟩ (fun f h => by cases h))⟩, [], List.mem_cons_self, fun f h => (by cases h)⟩
set_option maxRecDepth 8192 in
theorem rw_ruGSsEN {K : Nat → Nat} {n : Nat} : aGho (fF K n) fa_T K n (fJX K n) ag_ruGSsEN := by
  refine aGho_of ⟨rfl, rfl⟩ ?_
  intro p σ ρ hH hX hA hM
  have hG := aAG_of hA.1 (fun i e v he hv => (hA.2 i e v he hv).1)
  clear hA
  obtain ⟨v0, v1, v2, v3, v4, v5, v6, v7, v8, rfl, g0, g1, g2, g3, g4, g5, g6, g7, g8⟩ := fA_9 hG
  clear hG
  obtain ⟨x0, rfl, b0, d0⟩ := fG_ref (by decide) g0
  obtain ⟨x1, rfl, b1, d1⟩ := aG_int g1
  dsimp only at b1 d1
  obtain ⟨x2, rfl, b2, d2⟩ := aG_int g2
  dsimp only at b2 d2
  obtain ⟨x3, rfl, b3, d3⟩ := aG_int g3
  dsimp only at b3 d3
  obtain ⟨x4, rfl, b4, d4⟩ := aG_int g4
  dsimp only at b4 d4
  obtain ⟨x5, rfl, b5, d5⟩ := aG_int g5
  dsimp only at b5 d5
  obtain ⟨x6, rfl, b6, d6⟩ := aG_int g6
  dsimp only at b6 d6
  obtain ⟨x7, rfl, b7, d7⟩ := aG_int g7
  dsimp only at b7 d7
  obtain ⟨x8, rfl, b8, d8⟩ := aG_int g8
  dsimp only at b8 d8
  obtain ⟨m1, m2, m3, m4⟩ := hM
  have l0 : 0 ≤ (1 * x2.toInt + (-512 * x4.toInt + (-8 * x5.toInt + 0))) + 0 := by
    obtain ⟨z, e6, e7⟩ := m3 ([(2, 1), (4, -512), (5, -8)], 0) (List.mem_of_getElem? (i := 0) rfl)
    obtain rfl : (1 * x2.toInt + (-512 * x4.toInt + (-8 * x5.toInt + 0))) = z := Option.some.inj (show some (1 * x2.toInt + (-512 * x4.toInt + (-8 * x5.toInt + 0))) = some z from e6)
    exact e7
  have l1 : 0 ≤ (-1 * x2.toInt + (512 * x4.toInt + (8 * x5.toInt + 0))) + 0 := by
    obtain ⟨z, e6, e7⟩ := m3 ([(2, -1), (4, 512), (5, 8)], 0) (List.mem_of_getElem? (i := 1) rfl)
    obtain rfl : (-1 * x2.toInt + (512 * x4.toInt + (8 * x5.toInt + 0))) = z := Option.some.inj (show some (-1 * x2.toInt + (512 * x4.toInt + (8 * x5.toInt + 0))) = some z from e6)
    exact e7
  have l2 : 0 ≤ (1 * x1.toInt + (-1 * x3.toInt + 0)) + 0 := by
    obtain ⟨z, e6, e7⟩ := m3 ([(1, 1), (3, -1)], 0) (List.mem_of_getElem? (i := 2) rfl)
    obtain rfl : (1 * x1.toInt + (-1 * x3.toInt + 0)) = z := Option.some.inj (show some (1 * x1.toInt + (-1 * x3.toInt + 0)) = some z from e6)
    exact e7
  have f0 : fB K n p 78 [fR x0, fI x3, fI x1, fI x4, fI x6, fI x7, fI x8] σ := by
    obtain ⟨w, e6, e7⟩ := m4 (1255, [0, 3, 1, 4, 6, 7, 8]) (List.mem_of_getElem? (i := 0) rfl)
    obtain rfl : [fR x0, fI x3, fI x1, fI x4, fI x6, fI x7, fI x8] = w := Option.some.inj (show some [fR x0, fI x3, fI x1, fI x4, fI x6, fI x7, fI x8] = some w from e6)
    exact (fF_b (r := 1255) (by decide) rfl).mp e7
  have f1 : fB K n p 18 [fI x4, fI x7, fI x8, fI x5] σ := by
    obtain ⟨w, e6, e7⟩ := m4 (292, [4, 7, 8, 5]) (List.mem_of_getElem? (i := 1) rfl)
    obtain rfl : [fI x4, fI x7, fI x8, fI x5] = w := Option.some.inj (show some [fI x4, fI x7, fI x8, fI x5] = some w from e6)
    exact (fF_b (r := 292) (by decide) rfl).mp e7
  have f2 : fB K n p 48 [fI x5] σ := by
    obtain ⟨w, e6, e7⟩ := m4 (769, [5]) (List.mem_of_getElem? (i := 2) rfl)
    obtain rfl : [fI x5] = w := Option.some.inj (show some [fI x5] = some w from e6)
    exact (fF_b (r := 769) (by decide) rfl).mp e7
  clear m1 m2 m3 m4
  obtain ⟨a9_0, lo9_0, hi9_0, r9_0, S0, C0, e9_0, T0, V0⟩ := (fL_o (by decide) (by decide)).mp f0
  cases e9_0
  obtain ⟨y0_0, y0_1, y0_2, y0_3, e8_0, eS0, eC0, m0, z0, o0⟩ := T0
  cases e8_0
  subst eS0
  subst eC0
  obtain ⟨y1_0, y1_1, y1_2, y1_3, e9_1, h1, i1, t1_⟩ := f1
  cases e9_1
  obtain ⟨y2_0, e8_2, h2⟩ := (fE_o (by decide)).mp f2
  cases e8_2
  have q0 : fB K n (p) 79 [fR x0, fI x3, fI x1, fI x4, fI x6, fI x7, fI x8] (jup σ x0 (jsto (σ x0) x1.toNatClampNeg x2)) := by
    refine (fL_o (by decide) (by decide)).mpr ⟨x0, x3, x1, _, _, _, rfl, ⟨x4, x6, x7, x8, rfl, rfl, rfl, m0, z0, o0⟩, ?_⟩
    exact fCv_st V0 (by rw [fNc]; have e1 : fEc 78 = 0 := rfl; omega) (by have e1 : fEc 78 = 0 := rfl; show x3.toInt ≤ _; omega) (by have e1 : fEc 78 = 0 := rfl; have e2 : fEc 79 = 1 := rfl; omega) (⟨x7.toInt, x8.toInt, ⟨by omega, by omega, z0, o0, h1, i1, m0, by rw [← t1_]; exact h2⟩, trivial, by rw [← t1_]; omega⟩) (by
      rintro y ⟨j, q, hs, hp, hy⟩
      by_cases hh : j = x7.toInt ∧ q = x8.toInt
      · exact Or.inr (fI32 (by rw [hy, hh.1, hh.2, ← t1_]; omega))
      · exact Or.inl ⟨j, q, hs, by omega, hy⟩)
  exact ⟨p, fun _ => rfl, ⟨(fun q h => by cases h), fun q h => (by cases h), (fun f h => by cases h), (aAllc ⟨_, rfl, fF_p (r := 1271) (by decide) (by decide) rfl q0⟩ (fun f h => by cases h))⟩, [], List.mem_cons_self, fun f h => (by cases h)⟩
set_option maxRecDepth 8192 in
theorem rw_ruGSnEN {K : Nat → Nat} {n : Nat} : aGho (fF K n) fa_T K n (fJX K n) ag_ruGSnEN := by
  refine aGho_of ⟨rfl, rfl⟩ ?_
  intro p σ ρ hH hX hA hM
  have hG := aAG_of hA.1 (fun i e v he hv => (hA.2 i e v he hv).1)
  clear hA
  obtain ⟨v0, v1, v2, v3, v4, v5, v6, v7, rfl, g0, g1, g2, g3, g4, g5, g6, g7⟩ := fA_8 hG
  clear hG
  obtain ⟨x0, rfl, b0, d0⟩ := fG_ref (by decide) g0
  obtain ⟨x1, rfl, b1, d1⟩ := aG_int g1
  dsimp only at b1 d1
  obtain ⟨x2, rfl, b2, d2⟩ := aG_int g2
  dsimp only at b2 d2
  obtain ⟨x3, rfl, b3, d3⟩ := aG_int g3
  dsimp only at b3 d3
  obtain ⟨x4, rfl, b4, d4⟩ := aG_int g4
  dsimp only at b4 d4
  obtain ⟨x5, rfl, b5, d5⟩ := aG_int g5
  dsimp only at b5 d5
  obtain ⟨x6, rfl, b6, d6⟩ := aG_int g6
  dsimp only at b6 d6
  obtain ⟨x7, rfl, b7, d7⟩ := aG_int g7
  dsimp only at b7 d7
  obtain ⟨m1, m2, m3, m4⟩ := hM
  have l0 : 0 ≤ (1 * x7.toInt + (-1 * x2.toInt + 0)) + -1 := by
    obtain ⟨z, e6, e7⟩ := m3 ([(7, 1), (2, -1)], -1) (List.mem_of_getElem? (i := 0) rfl)
    obtain rfl : (1 * x7.toInt + (-1 * x2.toInt + 0)) = z := Option.some.inj (show some (1 * x7.toInt + (-1 * x2.toInt + 0)) = some z from e6)
    exact e7
  have l1 : 0 ≤ (-1 * x7.toInt + (1 * x2.toInt + 0)) + 1 := by
    obtain ⟨z, e6, e7⟩ := m3 ([(7, -1), (2, 1)], 1) (List.mem_of_getElem? (i := 1) rfl)
    obtain rfl : (-1 * x7.toInt + (1 * x2.toInt + 0)) = z := Option.some.inj (show some (-1 * x7.toInt + (1 * x2.toInt + 0)) = some z from e6)
    exact e7
  have f0 : fB K n p 79 [fR x0, fI x1, fI x2, fI x3, fI x4, fI x5, fI x6] σ := by
    obtain ⟨w, e6, e7⟩ := m4 (1271, [0, 1, 2, 3, 4, 5, 6]) (List.mem_of_getElem? (i := 0) rfl)
    obtain rfl : [fR x0, fI x1, fI x2, fI x3, fI x4, fI x5, fI x6] = w := Option.some.inj (show some [fR x0, fI x1, fI x2, fI x3, fI x4, fI x5, fI x6] = some w from e6)
    exact (fF_b (r := 1271) (by decide) rfl).mp e7
  clear m1 m2 m3 m4
  obtain ⟨a9_0, lo9_0, hi9_0, r9_0, S0, C0, e9_0, T0, V0⟩ := (fL_o (by decide) (by decide)).mp f0
  cases e9_0
  obtain ⟨y0_0, y0_1, y0_2, y0_3, e8_0, eS0, eC0, m0, z0, o0⟩ := T0
  cases e8_0
  subst eS0
  subst eC0
  have q0 : fB K n (p) 80 [fR x0, fI x1, fI x7, fI x3, fI x4, fI x5, fI x6] σ := by
    refine (fL_o (by decide) (by decide)).mpr ⟨x0, x1, x7, _, _, _, rfl, ⟨x3, x4, x5, x6, rfl, rfl, rfl, m0, z0, o0⟩, ?_⟩
    exact fCv_w V0 ((show _ = x1.toInt from rfl).trans (show x1.toInt = _ from rfl)) (by have e1 : fEc 79 = 1 := rfl; have e2 : fEc 80 = 0 := rfl; omega) (fun x h => h) (by
      exact fun x h => h)
  exact ⟨p, fun _ => rfl, ⟨(fun q h => by cases h), fun q h => (by cases h), (fun f h => by cases h), (aAllc ⟨_, rfl, (fF_b (r := 1287) (by decide) rfl).mpr q0⟩ (fun f h => by cases h))⟩, [], List.mem_cons_self, fun f h => (by cases h)⟩
set_option maxRecDepth 8192 in
theorem rw_ruGSoEN {K : Nat → Nat} {n : Nat} : aGho (fF K n) fa_T K n (fJX K n) ag_ruGSoEN := by
  refine aGho_of ⟨rfl, rfl⟩ ?_
  intro p σ ρ hH hX hA hM
  have hG := aAG_of hA.1 (fun i e v he hv => (hA.2 i e v he hv).1)
  clear hA
  obtain ⟨v0, v1, v2, v3, v4, v5, v6, v7, rfl, g0, g1, g2, g3, g4, g5, g6, g7⟩ := fA_8 hG
  clear hG
  obtain ⟨x0, rfl, b0, d0⟩ := fG_ref (by decide) g0
  obtain ⟨x1, rfl, b1, d1⟩ := aG_int g1
  dsimp only at b1 d1
  obtain ⟨x2, rfl, b2, d2⟩ := aG_int g2
  dsimp only at b2 d2
  obtain ⟨x3, rfl, b3, d3⟩ := aG_int g3
  dsimp only at b3 d3
  obtain ⟨x4, rfl, b4, d4⟩ := aG_int g4
  dsimp only at b4 d4
  obtain ⟨x5, rfl, b5, d5⟩ := aG_int g5
  dsimp only at b5 d5
  obtain ⟨x6, rfl, b6, d6⟩ := aG_int g6
  dsimp only at b6 d6
  obtain ⟨x7, rfl, b7, d7⟩ := aG_int g7
  dsimp only at b7 d7
  obtain ⟨m1, m2, m3, m4⟩ := hM
  have f0 : fB K n p 78 [fR x0, fI x1, fI x2, fI x3, fI x4, fI x5, fI x6] σ := by
    obtain ⟨w, e6, e7⟩ := m4 (1255, [0, 1, 2, 3, 4, 5, 6]) (List.mem_of_getElem? (i := 0) rfl)
    obtain rfl : [fR x0, fI x1, fI x2, fI x3, fI x4, fI x5, fI x6] = w := Option.some.inj (show some [fR x0, fI x1, fI x2, fI x3, fI x4, fI x5, fI x6] = some w from e6)
    exact (fF_b (r := 1255) (by decide) rfl).mp e7
  have f1 : fB K n p 18 [fI x3, fI x5, fI x6, fI x7] σ := by
    obtain ⟨w, e6, e7⟩ := m4 (292, [3, 5, 6, 7]) (List.mem_of_getElem? (i := 1) rfl)
    obtain rfl : [fI x3, fI x5, fI x6, fI x7] = w := Option.some.inj (show some [fI x3, fI x5, fI x6, fI x7] = some w from e6)
    exact (fF_b (r := 292) (by decide) rfl).mp e7
  have f2 : fB K n p 49 [fI x7] σ := by
    obtain ⟨w, e6, e7⟩ := m4 (785, [7]) (List.mem_of_getElem? (i := 2) rfl)
    obtain rfl : [fI x7] = w := Option.some.inj (show some [fI x7] = some w from e6)
    exact (fF_b (r := 785) (by decide) rfl).mp e7
  clear m1 m2 m3 m4
  obtain ⟨a9_0, lo9_0, hi9_0, r9_0, S0, C0, e9_0, T0, V0⟩ := (fL_o (by decide) (by decide)).mp f0
  cases e9_0
  obtain ⟨y0_0, y0_1, y0_2, y0_3, e8_0, eS0, eC0, m0, z0, o0⟩ := T0
  cases e8_0
  subst eS0
  subst eC0
  obtain ⟨y1_0, y1_1, y1_2, y1_3, e9_1, h1, i1, t1_⟩ := f1
  cases e9_1
  obtain ⟨y2_0, e8_2, h2⟩ := (fE_o (by decide)).mp f2
  cases e8_2
  have q0 : fB K n (p) 80 [fR x0, fI x1, fI x2, fI x3, fI x4, fI x5, fI x6] σ := by
    refine (fL_o (by decide) (by decide)).mpr ⟨x0, x1, x2, _, _, _, rfl, ⟨x3, x4, x5, x6, rfl, rfl, rfl, m0, z0, o0⟩, ?_⟩
    exact fCv_w V0 ((show _ = x1.toInt from rfl).trans (show x1.toInt = _ from rfl)) (by have e1 : fEc 78 = 0 := rfl; have e2 : fEc 80 = 0 := rfl; omega) (fun x h => h) (by
      rintro y ⟨j, q, hs, hp, hy⟩
      refine ⟨j, q, hs, ?_, hy⟩
      by_cases hh : j = x5.toInt ∧ q = x6.toInt
      · exfalso
        have h9 := hs.2.2.2.2.2.2.2
        rw [hh.1, hh.2, ← t1_] at h9
        exact h9.elim h2.1 (fun h => h h2.2)
      · omega)
  exact ⟨p, fun _ => rfl, ⟨(fun q h => by cases h), fun q h => (by cases h), (fun f h => by cases h), (aAllc ⟨_, rfl, (fF_b (r := 1287) (by decide) rfl).mpr q0⟩ (fun f h => by cases h))⟩, [], List.mem_cons_self, fun f h => (by cases h)⟩
set_option maxRecDepth 8192 in
theorem rw_ruGSqEN {K : Nat → Nat} {n : Nat} : aGho (fF K n) fa_T K n (fJX K n) ag_ruGSqEN := by
  refine aGho_of ⟨rfl, rfl⟩ ?_
  intro p σ ρ hH hX hA hM
  have hG := aAG_of hA.1 (fun i e v he hv => (hA.2 i e v he hv).1)
  clear hA
  obtain ⟨v0, v1, v2, v3, v4, v5, v6, v7, v8, v9, v10, v11, rfl, g0, g1, g2, g3, g4, g5, g6, g7, g8, g9, g10, g11⟩ := fA_12 hG
  clear hG
  obtain ⟨x0, rfl, b0, d0⟩ := fG_ref (by decide) g0
  obtain ⟨x1, rfl, b1, d1⟩ := aG_int g1
  dsimp only at b1 d1
  obtain ⟨x2, rfl, b2, d2⟩ := aG_int g2
  dsimp only at b2 d2
  obtain ⟨x3, rfl, b3, d3⟩ := aG_int g3
  dsimp only at b3 d3
  obtain ⟨x4, rfl, b4, d4⟩ := aG_int g4
  dsimp only at b4 d4
  obtain ⟨x5, rfl, b5, d5⟩ := aG_int g5
  dsimp only at b5 d5
  obtain ⟨x6, rfl, b6, d6⟩ := aG_int g6
  dsimp only at b6 d6
  obtain ⟨x7, rfl, b7, d7⟩ := aG_int g7
  dsimp only at b7 d7
  obtain ⟨x8, rfl, b8, d8⟩ := aG_int g8
  dsimp only at b8 d8
  obtain ⟨x9, rfl, b9, d9⟩ := fG_ref (by decide) g9
  obtain ⟨x10, rfl, b10, d10⟩ := aG_int g10
  dsimp only at b10 d10
  obtain ⟨x11, rfl, b11, d11⟩ := fG_ref (by decide) g11
  obtain ⟨m1, m2, m3, m4⟩ := hM
  obtain ⟨a0, c0, fs0, w0, e1, s0, t0, e4⟩ := m1 (9, 0, 11) (List.mem_of_getElem? (i := 0) rfl)
  obtain rfl : x9 = a0 := Sum.inl.inj (Option.some.inj (Sum.inr.inj (Sum.inr.inj (Option.some.inj (show some (fR x9) = some _ from e1)))))
  obtain rfl : fR x11 = w0 := Option.some.inj (show some (fR x11) = some w0 from e4)
  clear e1 e4
  obtain ⟨a, mc0, ty0, gc0, ic0, e1, sc0, jc0, e4, e5⟩ := m2 (11, ([(7, 1)], 0), 10) (List.mem_of_getElem? (i := 0) rfl)
  obtain rfl : x11 = a := Sum.inl.inj (Option.some.inj (Sum.inr.inj (Sum.inr.inj (Option.some.inj (show some (fR x11) = some _ from e1)))))
  obtain ⟨gc0, rfl⟩ : ∃ g, gc0 = .inl g := by
    rcases gc0 with g | g
    · exact ⟨g, rfl⟩
    · exact absurd (show some (fI x10) = some (.inr (.inl (g ic0))) from e5) (fun h => by cases h)
  have sc0 : σ x11 = .inl (ty0, mc0, .inl gc0) := sc0
  have ec0 : x10 = gc0 ic0 := Sum.inl.inj (Option.some.inj (show some (fI x10) = some _ from e5))
  have kc0 : (ic0 : Int) = (1 * x7.toInt + 0) + 0 := by
    obtain ⟨z, e6, e7⟩ := e4
    obtain rfl : (1 * x7.toInt + 0) = z := Option.some.inj (show some (1 * x7.toInt + 0) = some z from e6)
    exact e7
  clear e1 e4 e5
  obtain rfl : ic0 = x7.toInt.toNat := by omega
  have l0 : 0 ≤ (1 * x8.toInt + (-1 * x6.toInt + 0)) + -1 := by
    obtain ⟨z, e6, e7⟩ := m3 ([(8, 1), (6, -1)], -1) (List.mem_of_getElem? (i := 0) rfl)
    obtain rfl : (1 * x8.toInt + (-1 * x6.toInt + 0)) = z := Option.some.inj (show some (1 * x8.toInt + (-1 * x6.toInt + 0)) = some z from e6)
    exact e7
  have l1 : 0 ≤ (-1 * x8.toInt + (1 * x6.toInt + 0)) + 1 := by
    obtain ⟨z, e6, e7⟩ := m3 ([(8, -1), (6, 1)], 1) (List.mem_of_getElem? (i := 1) rfl)
    obtain rfl : (-1 * x8.toInt + (1 * x6.toInt + 0)) = z := Option.some.inj (show some (-1 * x8.toInt + (1 * x6.toInt + 0)) = some z from e6)
    exact e7
  have f0 : fB K n p 1 [fR x9] σ := by
    obtain ⟨w, e6, e7⟩ := m4 (17, [9]) (List.mem_of_getElem? (i := 0) rfl)
    obtain rfl : [fR x9] = w := Option.some.inj (show some [fR x9] = some w from e6)
    exact (fF_b (r := 17) (by decide) rfl).mp e7
  have f1 : fB K n p 80 [fR x0, fI x1, fI x2, fI x3, fI x4, fI x5, fI x6] σ := by
    obtain ⟨w, e6, e7⟩ := m4 (1287, [0, 1, 2, 3, 4, 5, 6]) (List.mem_of_getElem? (i := 1) rfl)
    obtain rfl : [fR x0, fI x1, fI x2, fI x3, fI x4, fI x5, fI x6] = w := Option.some.inj (show some [fR x0, fI x1, fI x2, fI x3, fI x4, fI x5, fI x6] = some w from e6)
    exact (fF_b (r := 1287) (by decide) rfl).mp e7
  have f2 : fB K n p 18 [fI x3, fI x5, fI x6, fI x7] σ := by
    obtain ⟨w, e6, e7⟩ := m4 (292, [3, 5, 6, 7]) (List.mem_of_getElem? (i := 2) rfl)
    obtain rfl : [fI x3, fI x5, fI x6, fI x7] = w := Option.some.inj (show some [fI x3, fI x5, fI x6, fI x7] = some w from e6)
    exact (fF_b (r := 292) (by decide) rfl).mp e7
  clear m1 m2 m3 m4
  obtain ⟨a9_0, e9_0, h0, g0⟩ := f0
  cases e9_0
  obtain ⟨a9_1, lo9_1, hi9_1, r9_1, S1, C1, e9_1, T1, V1⟩ := (fL_o (by decide) (by decide)).mp f1
  cases e9_1
  obtain ⟨y1_0, y1_1, y1_2, y1_3, e8_1, eS1, eC1, m1, z1, o1⟩ := T1
  cases e8_1
  subst eS1
  subst eC1
  obtain ⟨y2_0, y2_1, y2_2, y2_3, e9_2, h2, i2, t2_⟩ := f2
  cases e9_2
  have hF := fAt_of h0 s0
  obtain ⟨gB, hr1, hr2⟩ := hF.1 x11 t0
  rw [hr1] at sc0
  cases sc0
  have q0 : fB K n (p) 78 [fR x0, fI x1, fI x2, fI x3, fI x4, fI x5, fI x8] σ := by
    refine (fL_o (by decide) (by decide)).mpr ⟨x0, x1, x2, _, _, _, rfl, ⟨x3, x4, x5, x8, rfl, rfl, rfl, ?_, z1, o1⟩, ?_⟩
    · intro q h1 h2
      by_cases hq : q < x6.toInt
      · exact m1 q h1 hq
      · rw [show q = x6.toInt by omega, ← t2_, ← hr2 _ (by omega), ← ec0]
        omega
    · exact fCv_w V1 ((show _ = x1.toInt from rfl).trans (show x1.toInt = _ from rfl)) (by have e1 : fEc 80 = 0 := rfl; have e2 : fEc 78 = 0 := rfl; omega) (fun x h => h) (by
      rintro y ⟨j, q, hs, hp, hy⟩
      exact ⟨j, q, hs, by omega, hy⟩)
  exact ⟨p, fun _ => rfl, ⟨(fun q h => by cases h), fun q h => (by cases h), (fun f h => by cases h), (aAllc ⟨_, rfl, (fF_b (r := 1255) (by decide) rfl).mpr q0⟩ (fun f h => by cases h))⟩, [], List.mem_cons_self, fun f h => (by cases h)⟩
set_option maxRecDepth 8192 in
theorem rw_ruGSbEN {K : Nat → Nat} {n : Nat} : aGho (fF K n) fa_T K n (fJX K n) ag_ruGSbEN := by
  refine aGho_of ⟨rfl, rfl⟩ ?_
  intro p σ ρ hH hX hA hM
  have hG := aAG_of hA.1 (fun i e v he hv => (hA.2 i e v he hv).1)
  clear hA
  obtain ⟨v0, v1, v2, v3, v4, v5, v6, v7, v8, v9, v10, v11, rfl, g0, g1, g2, g3, g4, g5, g6, g7, g8, g9, g10, g11⟩ := fA_12 hG
  clear hG
  obtain ⟨x0, rfl, b0, d0⟩ := fG_ref (by decide) g0
  obtain ⟨x1, rfl, b1, d1⟩ := aG_int g1
  dsimp only at b1 d1
  obtain ⟨x2, rfl, b2, d2⟩ := aG_int g2
  dsimp only at b2 d2
  obtain ⟨x3, rfl, b3, d3⟩ := aG_int g3
  dsimp only at b3 d3
  obtain ⟨x4, rfl, b4, d4⟩ := aG_int g4
  dsimp only at b4 d4
  obtain ⟨x5, rfl, b5, d5⟩ := aG_int g5
  dsimp only at b5 d5
  obtain ⟨x6, rfl, b6, d6⟩ := aG_int g6
  dsimp only at b6 d6
  obtain ⟨x7, rfl, b7, d7⟩ := aG_int g7
  dsimp only at b7 d7
  obtain ⟨x8, rfl, b8, d8⟩ := aG_int g8
  dsimp only at b8 d8
  obtain ⟨x9, rfl, b9, d9⟩ := fG_ref (by decide) g9
  obtain ⟨x10, rfl, b10, d10⟩ := aG_int g10
  dsimp only at b10 d10
  obtain ⟨x11, rfl, b11, d11⟩ := fG_ref (by decide) g11
  obtain ⟨m1, m2, m3, m4⟩ := hM
  obtain ⟨a0, c0, fs0, w0, e1, s0, t0, e4⟩ := m1 (9, 0, 11) (List.mem_of_getElem? (i := 0) rfl)
  obtain rfl : x9 = a0 := Sum.inl.inj (Option.some.inj (Sum.inr.inj (Sum.inr.inj (Option.some.inj (show some (fR x9) = some _ from e1)))))
  obtain rfl : fR x11 = w0 := Option.some.inj (show some (fR x11) = some w0 from e4)
  clear e1 e4
  obtain ⟨a, mc0, ty0, gc0, ic0, e1, sc0, jc0, e4, e5⟩ := m2 (11, ([(7, 1)], 0), 10) (List.mem_of_getElem? (i := 0) rfl)
  obtain rfl : x11 = a := Sum.inl.inj (Option.some.inj (Sum.inr.inj (Sum.inr.inj (Option.some.inj (show some (fR x11) = some _ from e1)))))
  obtain ⟨gc0, rfl⟩ : ∃ g, gc0 = .inl g := by
    rcases gc0 with g | g
    · exact ⟨g, rfl⟩
    · exact absurd (show some (fI x10) = some (.inr (.inl (g ic0))) from e5) (fun h => by cases h)
  have sc0 : σ x11 = .inl (ty0, mc0, .inl gc0) := sc0
  have ec0 : x10 = gc0 ic0 := Sum.inl.inj (Option.some.inj (show some (fI x10) = some _ from e5))
  have kc0 : (ic0 : Int) = (1 * x7.toInt + 0) + 0 := by
    obtain ⟨z, e6, e7⟩ := e4
    obtain rfl : (1 * x7.toInt + 0) = z := Option.some.inj (show some (1 * x7.toInt + 0) = some z from e6)
    exact e7
  clear e1 e4 e5
  obtain rfl : ic0 = x7.toInt.toNat := by omega
  have l0 : 0 ≤ (1 * x8.toInt + (-1 * x5.toInt + 0)) + -1 := by
    obtain ⟨z, e6, e7⟩ := m3 ([(8, 1), (5, -1)], -1) (List.mem_of_getElem? (i := 0) rfl)
    obtain rfl : (1 * x8.toInt + (-1 * x5.toInt + 0)) = z := Option.some.inj (show some (1 * x8.toInt + (-1 * x5.toInt + 0)) = some z from e6)
    exact e7
  have l1 : 0 ≤ (-1 * x8.toInt + (1 * x5.toInt + 0)) + 1 := by
    obtain ⟨z, e6, e7⟩ := m3 ([(8, -1), (5, 1)], 1) (List.mem_of_getElem? (i := 1) rfl)
    obtain rfl : (-1 * x8.toInt + (1 * x5.toInt + 0)) = z := Option.some.inj (show some (-1 * x8.toInt + (1 * x5.toInt + 0)) = some z from e6)
    exact e7
  have f0 : fB K n p 1 [fR x9] σ := by
    obtain ⟨w, e6, e7⟩ := m4 (17, [9]) (List.mem_of_getElem? (i := 0) rfl)
    obtain rfl : [fR x9] = w := Option.some.inj (show some [fR x9] = some w from e6)
    exact (fF_b (r := 17) (by decide) rfl).mp e7
  have f1 : fB K n p 80 [fR x0, fI x1, fI x2, fI x3, fI x4, fI x5, fI x6] σ := by
    obtain ⟨w, e6, e7⟩ := m4 (1287, [0, 1, 2, 3, 4, 5, 6]) (List.mem_of_getElem? (i := 1) rfl)
    obtain rfl : [fR x0, fI x1, fI x2, fI x3, fI x4, fI x5, fI x6] = w := Option.some.inj (show some [fR x0, fI x1, fI x2, fI x3, fI x4, fI x5, fI x6] = some w from e6)
    exact (fF_b (r := 1287) (by decide) rfl).mp e7
  have f2 : fB K n p 18 [fI x3, fI x5, fI x6, fI x7] σ := by
    obtain ⟨w, e6, e7⟩ := m4 (292, [3, 5, 6, 7]) (List.mem_of_getElem? (i := 2) rfl)
    obtain rfl : [fI x3, fI x5, fI x6, fI x7] = w := Option.some.inj (show some [fI x3, fI x5, fI x6, fI x7] = some w from e6)
    exact (fF_b (r := 292) (by decide) rfl).mp e7
  clear m1 m2 m3 m4
  obtain ⟨a9_0, e9_0, h0, g0⟩ := f0
  cases e9_0
  obtain ⟨a9_1, lo9_1, hi9_1, r9_1, S1, C1, e9_1, T1, V1⟩ := (fL_o (by decide) (by decide)).mp f1
  cases e9_1
  obtain ⟨y1_0, y1_1, y1_2, y1_3, e8_1, eS1, eC1, m1, z1, o1⟩ := T1
  cases e8_1
  subst eS1
  subst eC1
  obtain ⟨y2_0, y2_1, y2_2, y2_3, e9_2, h2, i2, t2_⟩ := f2
  cases e9_2
  have hF := fAt_of h0 s0
  obtain ⟨gB, hr1, hr2⟩ := hF.1 x11 t0
  rw [hr1] at sc0
  cases sc0
  have q0 : fB K n (p) 77 [fR x0, fI x1, fI x2, fI x3, fI x4, fI x8] σ := by
    refine (fL_o (by decide) (by decide)).mpr ⟨x0, x1, x2, _, _, _, rfl, ⟨x3, x4, x8, rfl, rfl, rfl, by omega⟩, ?_⟩
    exact fCv_w V1 ((show _ = x1.toInt from rfl).trans (show x1.toInt = _ from rfl)) (by have e1 : fEc 80 = 0 := rfl; have e2 : fEc 77 = 0 := rfl; omega) (fun x h => h) (by
      rintro y ⟨j, q, hs, hp, hy⟩
      refine ⟨j, q, hs, ?_, hy⟩
      by_cases hh : j = x5.toInt ∧ x6.toInt < q
      · exfalso
        have h9 := hs.2.2.2.2.2.2.1 x6.toInt h2 hh.2
        rw [hh.1, ← t2_, ← hr2 _ (by omega), ← ec0] at h9
        omega
      · omega)
  exact ⟨p, fun _ => rfl, ⟨(fun q h => by cases h), fun q h => (by cases h), (fun f h => by cases h), (aAllc ⟨_, rfl, (fF_b (r := 1238) (by decide) rfl).mpr q0⟩ (fun f h => by cases h))⟩, [], List.mem_cons_self, fun f h => (by cases h)⟩
set_option maxRecDepth 8192 in
theorem rw_ruGSeEN {K : Nat → Nat} {n : Nat} : aGho (fF K n) fa_T K n (fJX K n) ag_ruGSeEN := by
  refine aGho_of ⟨rfl, rfl⟩ ?_
  intro p σ ρ hH hX hA hM
  have hG := aAG_of hA.1 (fun i e v he hv => (hA.2 i e v he hv).1)
  clear hA
  obtain ⟨v0, v1, v2, v3, v4, v5, v6, v7, v8, rfl, g0, g1, g2, g3, g4, g5, g6, g7, g8⟩ := fA_9 hG
  clear hG
  obtain ⟨x0, rfl, b0, d0⟩ := fG_ref (by decide) g0
  obtain ⟨x1, rfl, b1, d1⟩ := aG_int g1
  dsimp only at b1 d1
  obtain ⟨x2, rfl, b2, d2⟩ := aG_int g2
  dsimp only at b2 d2
  obtain ⟨x3, rfl, b3, d3⟩ := aG_int g3
  dsimp only at b3 d3
  obtain ⟨x4, rfl, b4, d4⟩ := aG_int g4
  dsimp only at b4 d4
  obtain ⟨x5, rfl, b5, d5⟩ := aG_int g5
  dsimp only at b5 d5
  obtain ⟨x6, rfl, b6, d6⟩ := aG_int g6
  dsimp only at b6 d6
  obtain ⟨x7, rfl, b7, d7⟩ := aG_int g7
  dsimp only at b7 d7
  obtain ⟨x8, rfl, b8, d8⟩ := aG_int g8
  dsimp only at b8 d8
  obtain ⟨m1, m2, m3, m4⟩ := hM
  have l0 : 0 ≤ (1 * x8.toInt + (-1 * x5.toInt + 0)) + -1 := by
    obtain ⟨z, e6, e7⟩ := m3 ([(8, 1), (5, -1)], -1) (List.mem_of_getElem? (i := 0) rfl)
    obtain rfl : (1 * x8.toInt + (-1 * x5.toInt + 0)) = z := Option.some.inj (show some (1 * x8.toInt + (-1 * x5.toInt + 0)) = some z from e6)
    exact e7
  have l1 : 0 ≤ (-1 * x8.toInt + (1 * x5.toInt + 0)) + 1 := by
    obtain ⟨z, e6, e7⟩ := m3 ([(8, -1), (5, 1)], 1) (List.mem_of_getElem? (i := 1) rfl)
    obtain rfl : (-1 * x8.toInt + (1 * x5.toInt + 0)) = z := Option.some.inj (show some (-1 * x8.toInt + (1 * x5.toInt + 0)) = some z from e6)
    exact e7
  have l2 : 0 ≤ (1 * x6.toInt + (-1 * x7.toInt + 0)) + -1 := by
    obtain ⟨z, e6, e7⟩ := m3 ([(6, 1), (7, -1)], -1) (List.mem_of_getElem? (i := 2) rfl)
    obtain rfl : (1 * x6.toInt + (-1 * x7.toInt + 0)) = z := Option.some.inj (show some (1 * x6.toInt + (-1 * x7.toInt + 0)) = some z from e6)
    exact e7
  have f0 : fB K n p 78 [fR x0, fI x1, fI x2, fI x3, fI x4, fI x5, fI x6] σ := by
    obtain ⟨w, e6, e7⟩ := m4 (1255, [0, 1, 2, 3, 4, 5, 6]) (List.mem_of_getElem? (i := 0) rfl)
    obtain rfl : [fR x0, fI x1, fI x2, fI x3, fI x4, fI x5, fI x6] = w := Option.some.inj (show some [fR x0, fI x1, fI x2, fI x3, fI x4, fI x5, fI x6] = some w from e6)
    exact (fF_b (r := 1255) (by decide) rfl).mp e7
  have f1 : fB K n p 19 [fI x3, fI x5, fI x7] σ := by
    obtain ⟨w, e6, e7⟩ := m4 (307, [3, 5, 7]) (List.mem_of_getElem? (i := 1) rfl)
    obtain rfl : [fI x3, fI x5, fI x7] = w := Option.some.inj (show some [fI x3, fI x5, fI x7] = some w from e6)
    exact (fF_b (r := 307) (by decide) rfl).mp e7
  clear m1 m2 m3 m4
  obtain ⟨a9_0, lo9_0, hi9_0, r9_0, S0, C0, e9_0, T0, V0⟩ := (fL_o (by decide) (by decide)).mp f0
  cases e9_0
  obtain ⟨y0_0, y0_1, y0_2, y0_3, e8_0, eS0, eC0, m0, z0, o0⟩ := T0
  cases e8_0
  subst eS0
  subst eC0
  obtain ⟨y1_0, y1_1, y1_2, e9_1, h1⟩ := f1
  cases e9_1
  have q0 : fB K n (p) 77 [fR x0, fI x1, fI x2, fI x3, fI x4, fI x8] σ := by
    refine (fL_o (by decide) (by decide)).mpr ⟨x0, x1, x2, _, _, _, rfl, ⟨x3, x4, x8, rfl, rfl, rfl, by omega⟩, ?_⟩
    exact fCv_w V0 ((show _ = x1.toInt from rfl).trans (show x1.toInt = _ from rfl)) (by have e1 : fEc 78 = 0 := rfl; have e2 : fEc 77 = 0 := rfl; omega) (fun x h => h) (by
      rintro y ⟨j, q, hs, hp, hy⟩
      refine ⟨j, q, hs, ?_, hy⟩
      by_cases hh : j = x5.toInt
      · have h9 := hs.2.2.2.2.2.1
        rw [hh, ← h1] at h9
        omega
      · omega)
  exact ⟨p, fun _ => rfl, ⟨(fun q h => by cases h), fun q h => (by cases h), (fun f h => by cases h), (aAllc ⟨_, rfl, (fF_b (r := 1238) (by decide) rfl).mpr q0⟩ (fun f h => by cases h))⟩, [], List.mem_cons_self, fun f h => (by cases h)⟩
set_option maxRecDepth 8192 in
theorem rw_ruGSfEN {K : Nat → Nat} {n : Nat} : aGho (fF K n) fa_T K n (fJX K n) ag_ruGSfEN := by
  refine aGho_of ⟨rfl, rfl⟩ ?_
  intro p σ ρ hH hX hA hM
  have hG := aAG_of hA.1 (fun i e v he hv => (hA.2 i e v he hv).1)
  clear hA
  obtain ⟨v0, v1, v2, v3, v4, v5, rfl, g0, g1, g2, g3, g4, g5⟩ := fA_6 hG
  clear hG
  obtain ⟨x0, rfl, b0, d0⟩ := fG_ref (by decide) g0
  obtain ⟨x1, rfl, b1, d1⟩ := aG_int g1
  dsimp only at b1 d1
  obtain ⟨x2, rfl, b2, d2⟩ := aG_int g2
  dsimp only at b2 d2
  obtain ⟨x3, rfl, b3, d3⟩ := aG_int g3
  dsimp only at b3 d3
  obtain ⟨x4, rfl, b4, d4⟩ := aG_int g4
  dsimp only at b4 d4
  obtain ⟨x5, rfl, b5, d5⟩ := aG_int g5
  dsimp only at b5 d5
  obtain ⟨m1, m2, m3, m4⟩ := hM
  have f0 : fB K n p 77 [fR x0, fI x1, fI x2, fI x3, fI x4, fI x5] σ := by
    obtain ⟨w, e6, e7⟩ := m4 (1238, [0, 1, 2, 3, 4, 5]) (List.mem_of_getElem? (i := 0) rfl)
    obtain rfl : [fR x0, fI x1, fI x2, fI x3, fI x4, fI x5] = w := Option.some.inj (show some [fR x0, fI x1, fI x2, fI x3, fI x4, fI x5] = some w from e6)
    exact (fF_b (r := 1238) (by decide) rfl).mp e7
  have f1 : fB K n p 25 [fI x3, fI x4] σ := by
    obtain ⟨w, e6, e7⟩ := m4 (402, [3, 4]) (List.mem_of_getElem? (i := 1) rfl)
    obtain rfl : [fI x3, fI x4] = w := Option.some.inj (show some [fI x3, fI x4] = some w from e6)
    exact (fF_b (r := 402) (by decide) rfl).mp e7
  clear m1 m2 m3 m4
  obtain ⟨a9_0, lo9_0, hi9_0, r9_0, S0, C0, e9_0, T0, V0⟩ := (fL_o (by decide) (by decide)).mp f0
  cases e9_0
  obtain ⟨y0_0, y0_1, y0_2, e8_0, eS0, eC0, z0⟩ := T0
  cases e8_0
  subst eS0
  subst eC0
  obtain ⟨y1_0, y1_1, e9_1, h1⟩ := f1
  cases e9_1
  have hmk : ((fq p).1 x3.toInt.toNat).toInt % 8 = x4.toInt := by
    unfold fOw at h1
    rw [fNc] at h1
    rw [h1, show ((x4.toNatClampNeg : Nat) : Int) = x4.toInt by rw [fNc]; omega]
    omega
  have q0 : fB K n (p) 81 [fR x0, fI x1, fI x2, fI x3] σ := by
    refine (fL_o (by decide) (by decide)).mpr ⟨x0, x1, x2, _, _, _, rfl, (Or.inl ⟨x3, rfl, rfl, rfl⟩), ?_⟩
    exact fCv_w V0 ((show _ = x1.toInt from rfl).trans (show x1.toInt = _ from rfl)) (by have e1 : fEc 77 = 0 := rfl; have e2 : fEc 81 = 0 := rfl; omega) (fun x h => Or.inr (Or.inr (Or.inr ⟨by omega, by omega, by rw [hmk]; exact h⟩))) (by
      intro y hy
      unfold fGn at hy
      rw [hmk] at hy
      rcases hy with hy | hy | hy | ⟨-, -, j, q, hs, hp, hy⟩
      · omega
      · omega
      · omega
      · have := hs.2.1
        have := hs.2.2.2.1
        exact ⟨j, q, hs, by omega, hy⟩)
  exact ⟨p, fun _ => rfl, ⟨(fun q h => by cases h), fun q h => (by cases h), (fun f h => by cases h), (aAllc ⟨_, rfl, (fF_b (r := 1300) (by decide) rfl).mpr q0⟩ (fun f h => by cases h))⟩, [], List.mem_cons_self, fun f h => (by cases h)⟩
set_option maxRecDepth 8192 in
theorem rw_ruGSgEN {K : Nat → Nat} {n : Nat} : aGho (fF K n) fa_T K n (fJX K n) ag_ruGSgEN := by
  refine aGho_of ⟨rfl, rfl⟩ ?_
  intro p σ ρ hH hX hA hM
  have hG := aAG_of hA.1 (fun i e v he hv => (hA.2 i e v he hv).1)
  clear hA
  obtain ⟨v0, v1, v2, v3, v4, v5, rfl, g0, g1, g2, g3, g4, g5⟩ := fA_6 hG
  clear hG
  obtain ⟨x0, rfl, b0, d0⟩ := fG_ref (by decide) g0
  obtain ⟨x1, rfl, b1, d1⟩ := aG_int g1
  dsimp only at b1 d1
  obtain ⟨x2, rfl, b2, d2⟩ := aG_int g2
  dsimp only at b2 d2
  obtain ⟨x3, rfl, b3, d3⟩ := aG_int g3
  dsimp only at b3 d3
  obtain ⟨x4, rfl, b4, d4⟩ := aG_int g4
  dsimp only at b4 d4
  obtain ⟨x5, rfl, b5, d5⟩ := aG_int g5
  dsimp only at b5 d5
  obtain ⟨m1, m2, m3, m4⟩ := hM
  have f0 : fB K n p 77 [fR x0, fI x1, fI x2, fI x3, fI x4, fI x5] σ := by
    obtain ⟨w, e6, e7⟩ := m4 (1238, [0, 1, 2, 3, 4, 5]) (List.mem_of_getElem? (i := 0) rfl)
    obtain rfl : [fR x0, fI x1, fI x2, fI x3, fI x4, fI x5] = w := Option.some.inj (show some [fR x0, fI x1, fI x2, fI x3, fI x4, fI x5] = some w from e6)
    exact (fF_b (r := 1238) (by decide) rfl).mp e7
  have f1 : fB K n p 25 [fI x3, fI x4] σ := by
    obtain ⟨w, e6, e7⟩ := m4 (402, [3, 4]) (List.mem_of_getElem? (i := 1) rfl)
    obtain rfl : [fI x3, fI x4] = w := Option.some.inj (show some [fI x3, fI x4] = some w from e6)
    exact (fF_b (r := 402) (by decide) rfl).mp e7
  clear m1 m2 m3 m4
  obtain ⟨a9_0, lo9_0, hi9_0, r9_0, S0, C0, e9_0, T0, V0⟩ := (fL_o (by decide) (by decide)).mp f0
  cases e9_0
  obtain ⟨y0_0, y0_1, y0_2, e8_0, eS0, eC0, z0⟩ := T0
  cases e8_0
  subst eS0
  subst eC0
  obtain ⟨y1_0, y1_1, e9_1, h1⟩ := f1
  cases e9_1
  have hmk : ((fq p).1 x3.toInt.toNat).toInt % 8 = x4.toInt := by
    unfold fOw at h1
    rw [fNc] at h1
    rw [h1, show ((x4.toNatClampNeg : Nat) : Int) = x4.toInt by rw [fNc]; omega]
    omega
  have q0 : fB K n (p) 81 [fR x0, fI x1, fI x2, fI x3] σ := by
    refine (fL_o (by decide) (by decide)).mpr ⟨x0, x1, x2, _, _, _, rfl, (Or.inl ⟨x3, rfl, rfl, rfl⟩), ?_⟩
    exact fCv_w V0 ((show _ = x1.toInt from rfl).trans (show x1.toInt = _ from rfl)) (by have e1 : fEc 77 = 0 := rfl; have e2 : fEc 81 = 0 := rfl; omega) (fun x h => Or.inr (Or.inr (Or.inr ⟨by omega, by omega, by rw [hmk]; exact h⟩))) (by
      intro y hy
      unfold fGn at hy
      rw [hmk] at hy
      rcases hy with hy | hy | hy | ⟨-, -, j, q, hs, hp, hy⟩
      · omega
      · omega
      · omega
      · have := hs.2.1
        have := hs.2.2.2.1
        exact ⟨j, q, hs, by omega, hy⟩)
  exact ⟨p, fun _ => rfl, ⟨(fun q h => by cases h), fun q h => (by cases h), (fun f h => by cases h), (aAllc ⟨_, rfl, (fF_b (r := 1300) (by decide) rfl).mpr q0⟩ (fun f h => by cases h))⟩, [], List.mem_cons_self, fun f h => (by cases h)⟩
set_option maxRecDepth 8192 in
theorem rw_ruGHaEN {K : Nat → Nat} {n : Nat} : aGho (fF K n) fa_T K n (fJX K n) ag_ruGHaEN := by
  refine aGho_of ⟨rfl, rfl⟩ ?_
  intro p σ ρ hH hX hA hM
  have hG := aAG_of hA.1 (fun i e v he hv => (hA.2 i e v he hv).1)
  clear hA
  obtain ⟨v0, v1, v2, v3, rfl, g0, g1, g2, g3⟩ := fA_4 hG
  clear hG
  obtain ⟨x0, rfl, b0, d0⟩ := fG_ref (by decide) g0
  obtain ⟨x1, rfl, b1, d1⟩ := aG_int g1
  dsimp only at b1 d1
  obtain ⟨x2, rfl, b2, d2⟩ := aG_int g2
  dsimp only at b2 d2
  obtain ⟨x3, rfl, b3, d3⟩ := aG_int g3
  dsimp only at b3 d3
  obtain ⟨m1, m2, m3, m4⟩ := hM
  have l0 : 0 ≤ (1 * x3.toInt + (-8 * x2.toInt + 0)) + 0 := by
    obtain ⟨z, e6, e7⟩ := m3 ([(3, 1), (2, -8)], 0) (List.mem_of_getElem? (i := 0) rfl)
    obtain rfl : (1 * x3.toInt + (-8 * x2.toInt + 0)) = z := Option.some.inj (show some (1 * x3.toInt + (-8 * x2.toInt + 0)) = some z from e6)
    exact e7
  have l1 : 0 ≤ (-1 * x3.toInt + (8 * x2.toInt + 0)) + 0 := by
    obtain ⟨z, e6, e7⟩ := m3 ([(3, -1), (2, 8)], 0) (List.mem_of_getElem? (i := 1) rfl)
    obtain rfl : (-1 * x3.toInt + (8 * x2.toInt + 0)) = z := Option.some.inj (show some (-1 * x3.toInt + (8 * x2.toInt + 0)) = some z from e6)
    exact e7
  clear m1 m2 m3 m4
  have q0 : fB K n (p) 83 [fR x0, fI x1, fI x1, fI x2, fI x3] σ := by
    obtain ⟨g, hg9⟩ := fRow hH b0 d0 rfl (by decide)
    refine (fL_o (by decide) (by decide)).mpr ⟨x0, x1, x1, _, _, _, rfl, ⟨x2, x3, rfl, rfl, rfl⟩, ?_⟩
    exact fCv_0 b0 (by unfold fRw; omega) hg9 (by have e1 : fEc 83 = 0 := rfl; show x1.toInt + fEc 83 ≤ x1.toInt; omega) (by
      rintro x ⟨j, -, -, -, hp, -⟩
      omega)
  exact ⟨p, fun _ => rfl, ⟨(fun q h => by cases h), fun q h => (by cases h), (fun f h => by cases h), (aAllc ⟨_, rfl, (fF_b (r := 1333) (by decide) rfl).mpr q0⟩ (fun f h => by cases h))⟩, [], List.mem_cons_self, fun f h => (by cases h)⟩
set_option maxRecDepth 8192 in
theorem rw_ruGHsEN {K : Nat → Nat} {n : Nat} : aGho (fF K n) fa_T K n (fJX K n) ag_ruGHsEN := by
  refine aGho_of ⟨rfl, rfl⟩ ?_
  intro p σ ρ hH hX hA hM
  have hG := aAG_of hA.1 (fun i e v he hv => (hA.2 i e v he hv).1)
  clear hA
  obtain ⟨v0, v1, v2, v3, v4, v5, v6, rfl, g0, g1, g2, g3, g4, g5, g6⟩ := fA_7 hG
  clear hG
  obtain ⟨x0, rfl, b0, d0⟩ := fG_ref (by decide) g0
  obtain ⟨x1, rfl, b1, d1⟩ := aG_int g1
  dsimp only at b1 d1
  obtain ⟨x2, rfl, b2, d2⟩ := aG_int g2
  dsimp only at b2 d2
  obtain ⟨x3, rfl, b3, d3⟩ := aG_int g3
  dsimp only at b3 d3
  obtain ⟨x4, rfl, b4, d4⟩ := aG_int g4
  dsimp only at b4 d4
  obtain ⟨x5, rfl, b5, d5⟩ := aG_int g5
  dsimp only at b5 d5
  obtain ⟨x6, rfl, b6, d6⟩ := aG_int g6
  dsimp only at b6 d6
  obtain ⟨m1, m2, m3, m4⟩ := hM
  have l0 : 0 ≤ (1 * x2.toInt + (-512 * x4.toInt + (-8 * x5.toInt + 0))) + 0 := by
    obtain ⟨z, e6, e7⟩ := m3 ([(2, 1), (4, -512), (5, -8)], 0) (List.mem_of_getElem? (i := 0) rfl)
    obtain rfl : (1 * x2.toInt + (-512 * x4.toInt + (-8 * x5.toInt + 0))) = z := Option.some.inj (show some (1 * x2.toInt + (-512 * x4.toInt + (-8 * x5.toInt + 0))) = some z from e6)
    exact e7
  have l1 : 0 ≤ (-1 * x2.toInt + (512 * x4.toInt + (8 * x5.toInt + 0))) + 0 := by
    obtain ⟨z, e6, e7⟩ := m3 ([(2, -1), (4, 512), (5, 8)], 0) (List.mem_of_getElem? (i := 1) rfl)
    obtain rfl : (-1 * x2.toInt + (512 * x4.toInt + (8 * x5.toInt + 0))) = z := Option.some.inj (show some (-1 * x2.toInt + (512 * x4.toInt + (8 * x5.toInt + 0))) = some z from e6)
    exact e7
  have l2 : 0 ≤ (1 * x1.toInt + (-1 * x3.toInt + 0)) + 0 := by
    obtain ⟨z, e6, e7⟩ := m3 ([(1, 1), (3, -1)], 0) (List.mem_of_getElem? (i := 2) rfl)
    obtain rfl : (1 * x1.toInt + (-1 * x3.toInt + 0)) = z := Option.some.inj (show some (1 * x1.toInt + (-1 * x3.toInt + 0)) = some z from e6)
    exact e7
  have f0 : fB K n p 83 [fR x0, fI x3, fI x1, fI x4, fI x6] σ := by
    obtain ⟨w, e6, e7⟩ := m4 (1333, [0, 3, 1, 4, 6]) (List.mem_of_getElem? (i := 0) rfl)
    obtain rfl : [fR x0, fI x3, fI x1, fI x4, fI x6] = w := Option.some.inj (show some [fR x0, fI x3, fI x1, fI x4, fI x6] = some w from e6)
    exact (fF_b (r := 1333) (by decide) rfl).mp e7
  have f1 : fB K n p 204 [fI x4, fI x6, fI x5] σ := by
    obtain ⟨w, e6, e7⟩ := m4 (3267, [4, 6, 5]) (List.mem_of_getElem? (i := 1) rfl)
    obtain rfl : [fI x4, fI x6, fI x5] = w := Option.some.inj (show some [fI x4, fI x6, fI x5] = some w from e6)
    exact (fF_b (r := 3267) (by decide) rfl).mp e7
  have f2 : fB K n p 48 [fI x5] σ := by
    obtain ⟨w, e6, e7⟩ := m4 (769, [5]) (List.mem_of_getElem? (i := 2) rfl)
    obtain rfl : [fI x5] = w := Option.some.inj (show some [fI x5] = some w from e6)
    exact (fF_b (r := 769) (by decide) rfl).mp e7
  clear m1 m2 m3 m4
  obtain ⟨a9_0, lo9_0, hi9_0, r9_0, S0, C0, e9_0, T0, V0⟩ := (fL_o (by decide) (by decide)).mp f0
  cases e9_0
  obtain ⟨y0_0, y0_1, e8_0, eS0, eC0⟩ := T0
  cases e8_0
  subst eS0
  subst eC0
  obtain ⟨y1_0, y1_1, y1_2, e8_1, h1, i1, q1⟩ := (fP_o (by decide)).mp f1
  cases e8_1
  obtain ⟨y2_0, e8_2, h2⟩ := (fE_o (by decide)).mp f2
  cases e8_2
  have q0 : fB K n (p) 84 [fR x0, fI x3, fI x1, fI x4, fI x6] (jup σ x0 (jsto (σ x0) x1.toNatClampNeg x2)) := by
    refine (fL_o (by decide) (by decide)).mpr ⟨x0, x3, x1, _, _, _, rfl, (Or.inl ⟨x4, x6, rfl, rfl, rfl⟩), ?_⟩
    exact fCv_st V0 (by rw [fNc]; have e1 : fEc 83 = 0 := rfl; omega) (by have e1 : fEc 83 = 0 := rfl; show x3.toInt ≤ _; omega) (by have e1 : fEc 83 = 0 := rfl; have e2 : fEc 84 = 1 := rfl; omega) (⟨(x6.toInt - 8 * x4.toInt).toNat, by omega, by rw [← q1]; omega, by rw [← q1]; exact h2, trivial, by rw [← q1]; omega⟩) (by
      rintro y ⟨j, j1, j2, j3, hp, hy⟩
      by_cases hh : j = (x6.toInt - 8 * x4.toInt).toNat
      · exact Or.inr (fI32 (by rw [hy, hh, ← q1]; omega))
      · exact Or.inl ⟨j, j1, j2, j3, by omega, hy⟩)
  exact ⟨p, fun _ => rfl, ⟨(fun q h => by cases h), fun q h => (by cases h), (fun f h => by cases h), (aAllc ⟨_, rfl, fF_p (r := 1349) (by decide) (by decide) rfl q0⟩ (fun f h => by cases h))⟩, [], List.mem_cons_self, fun f h => (by cases h)⟩
set_option maxRecDepth 8192 in
theorem rw_ruGHnEN {K : Nat → Nat} {n : Nat} : aGho (fF K n) fa_T K n (fJX K n) ag_ruGHnEN := by
  refine aGho_of ⟨rfl, rfl⟩ ?_
  intro p σ ρ hH hX hA hM
  have hG := aAG_of hA.1 (fun i e v he hv => (hA.2 i e v he hv).1)
  clear hA
  obtain ⟨v0, v1, v2, v3, v4, v5, rfl, g0, g1, g2, g3, g4, g5⟩ := fA_6 hG
  clear hG
  obtain ⟨x0, rfl, b0, d0⟩ := fG_ref (by decide) g0
  obtain ⟨x1, rfl, b1, d1⟩ := aG_int g1
  dsimp only at b1 d1
  obtain ⟨x2, rfl, b2, d2⟩ := aG_int g2
  dsimp only at b2 d2
  obtain ⟨x3, rfl, b3, d3⟩ := aG_int g3
  dsimp only at b3 d3
  obtain ⟨x4, rfl, b4, d4⟩ := aG_int g4
  dsimp only at b4 d4
  obtain ⟨x5, rfl, b5, d5⟩ := aG_int g5
  dsimp only at b5 d5
  obtain ⟨m1, m2, m3, m4⟩ := hM
  have l0 : 0 ≤ (1 * x5.toInt + (-1 * x2.toInt + 0)) + -1 := by
    obtain ⟨z, e6, e7⟩ := m3 ([(5, 1), (2, -1)], -1) (List.mem_of_getElem? (i := 0) rfl)
    obtain rfl : (1 * x5.toInt + (-1 * x2.toInt + 0)) = z := Option.some.inj (show some (1 * x5.toInt + (-1 * x2.toInt + 0)) = some z from e6)
    exact e7
  have l1 : 0 ≤ (-1 * x5.toInt + (1 * x2.toInt + 0)) + 1 := by
    obtain ⟨z, e6, e7⟩ := m3 ([(5, -1), (2, 1)], 1) (List.mem_of_getElem? (i := 1) rfl)
    obtain rfl : (-1 * x5.toInt + (1 * x2.toInt + 0)) = z := Option.some.inj (show some (-1 * x5.toInt + (1 * x2.toInt + 0)) = some z from e6)
    exact e7
  have f0 : fB K n p 84 [fR x0, fI x1, fI x2, fI x3, fI x4] σ := by
    obtain ⟨w, e6, e7⟩ := m4 (1349, [0, 1, 2, 3, 4]) (List.mem_of_getElem? (i := 0) rfl)
    obtain rfl : [fR x0, fI x1, fI x2, fI x3, fI x4] = w := Option.some.inj (show some [fR x0, fI x1, fI x2, fI x3, fI x4] = some w from e6)
    exact (fF_b (r := 1349) (by decide) rfl).mp e7
  clear m1 m2 m3 m4
  obtain ⟨a9_0, lo9_0, hi9_0, r9_0, S0, C0, e9_0, T0, V0⟩ := (fL_o (by decide) (by decide)).mp f0
  cases e9_0
  obtain ⟨y0_0, y0_1, e8_0, eS0, eC0⟩ := (fOr_l T0 (by rintro ⟨_, _, _, e9, -⟩; cases e9))
  cases e8_0
  subst eS0
  subst eC0
  have q0 : fB K n (p) 85 [fR x0, fI x1, fI x5, fI x3, fI x4] σ := by
    refine (fL_o (by decide) (by decide)).mpr ⟨x0, x1, x5, _, _, _, rfl, ⟨x3, x4, rfl, rfl, rfl⟩, ?_⟩
    exact fCv_w V0 ((show _ = x1.toInt from rfl).trans (show x1.toInt = _ from rfl)) (by have e1 : fEc 84 = 1 := rfl; have e2 : fEc 85 = 0 := rfl; omega) (fun x h => h) (by
      exact fun x h => h)
  exact ⟨p, fun _ => rfl, ⟨(fun q h => by cases h), fun q h => (by cases h), (fun f h => by cases h), (aAllc ⟨_, rfl, (fF_b (r := 1365) (by decide) rfl).mpr q0⟩ (fun f h => by cases h))⟩, [], List.mem_cons_self, fun f h => (by cases h)⟩
set_option maxRecDepth 8192 in
theorem rw_ruGHoEN {K : Nat → Nat} {n : Nat} : aGho (fF K n) fa_T K n (fJX K n) ag_ruGHoEN := by
  refine aGho_of ⟨rfl, rfl⟩ ?_
  intro p σ ρ hH hX hA hM
  have hG := aAG_of hA.1 (fun i e v he hv => (hA.2 i e v he hv).1)
  clear hA
  obtain ⟨v0, v1, v2, v3, v4, v5, rfl, g0, g1, g2, g3, g4, g5⟩ := fA_6 hG
  clear hG
  obtain ⟨x0, rfl, b0, d0⟩ := fG_ref (by decide) g0
  obtain ⟨x1, rfl, b1, d1⟩ := aG_int g1
  dsimp only at b1 d1
  obtain ⟨x2, rfl, b2, d2⟩ := aG_int g2
  dsimp only at b2 d2
  obtain ⟨x3, rfl, b3, d3⟩ := aG_int g3
  dsimp only at b3 d3
  obtain ⟨x4, rfl, b4, d4⟩ := aG_int g4
  dsimp only at b4 d4
  obtain ⟨x5, rfl, b5, d5⟩ := aG_int g5
  dsimp only at b5 d5
  obtain ⟨m1, m2, m3, m4⟩ := hM
  have f0 : fB K n p 83 [fR x0, fI x1, fI x2, fI x3, fI x4] σ := by
    obtain ⟨w, e6, e7⟩ := m4 (1333, [0, 1, 2, 3, 4]) (List.mem_of_getElem? (i := 0) rfl)
    obtain rfl : [fR x0, fI x1, fI x2, fI x3, fI x4] = w := Option.some.inj (show some [fR x0, fI x1, fI x2, fI x3, fI x4] = some w from e6)
    exact (fF_b (r := 1333) (by decide) rfl).mp e7
  have f1 : fB K n p 204 [fI x3, fI x4, fI x5] σ := by
    obtain ⟨w, e6, e7⟩ := m4 (3267, [3, 4, 5]) (List.mem_of_getElem? (i := 1) rfl)
    obtain rfl : [fI x3, fI x4, fI x5] = w := Option.some.inj (show some [fI x3, fI x4, fI x5] = some w from e6)
    exact (fF_b (r := 3267) (by decide) rfl).mp e7
  have f2 : fB K n p 49 [fI x5] σ := by
    obtain ⟨w, e6, e7⟩ := m4 (785, [5]) (List.mem_of_getElem? (i := 2) rfl)
    obtain rfl : [fI x5] = w := Option.some.inj (show some [fI x5] = some w from e6)
    exact (fF_b (r := 785) (by decide) rfl).mp e7
  clear m1 m2 m3 m4
  obtain ⟨a9_0, lo9_0, hi9_0, r9_0, S0, C0, e9_0, T0, V0⟩ := (fL_o (by decide) (by decide)).mp f0
  cases e9_0
  obtain ⟨y0_0, y0_1, e8_0, eS0, eC0⟩ := T0
  cases e8_0
  subst eS0
  subst eC0
  obtain ⟨y1_0, y1_1, y1_2, e8_1, h1, i1, q1⟩ := (fP_o (by decide)).mp f1
  cases e8_1
  obtain ⟨y2_0, e8_2, h2⟩ := (fE_o (by decide)).mp f2
  cases e8_2
  have q0 : fB K n (p) 85 [fR x0, fI x1, fI x2, fI x3, fI x4] σ := by
    refine (fL_o (by decide) (by decide)).mpr ⟨x0, x1, x2, _, _, _, rfl, ⟨x3, x4, rfl, rfl, rfl⟩, ?_⟩
    exact fCv_w V0 ((show _ = x1.toInt from rfl).trans (show x1.toInt = _ from rfl)) (by have e1 : fEc 83 = 0 := rfl; have e2 : fEc 85 = 0 := rfl; omega) (fun x h => h) (by
      rintro y ⟨j, j1, j2, j3, hp, hy⟩
      by_cases hh : j = (x4.toInt - 8 * x3.toInt).toNat
      · exfalso
        rw [hh, ← q1] at j3
        exact j3.elim h2.1 (fun h => h h2.2)
      · exact ⟨j, j1, j2, j3, by omega, hy⟩)
  exact ⟨p, fun _ => rfl, ⟨(fun q h => by cases h), fun q h => (by cases h), (fun f h => by cases h), (aAllc ⟨_, rfl, (fF_b (r := 1365) (by decide) rfl).mpr q0⟩ (fun f h => by cases h))⟩, [], List.mem_cons_self, fun f h => (by cases h)⟩
set_option maxRecDepth 8192 in
theorem rw_ruGHqEN {K : Nat → Nat} {n : Nat} : aGho (fF K n) fa_T K n (fJX K n) ag_ruGHqEN := by
  refine aGho_of ⟨rfl, rfl⟩ ?_
  intro p σ ρ hH hX hA hM
  have hG := aAG_of hA.1 (fun i e v he hv => (hA.2 i e v he hv).1)
  clear hA
  obtain ⟨v0, v1, v2, v3, v4, v5, rfl, g0, g1, g2, g3, g4, g5⟩ := fA_6 hG
  clear hG
  obtain ⟨x0, rfl, b0, d0⟩ := fG_ref (by decide) g0
  obtain ⟨x1, rfl, b1, d1⟩ := aG_int g1
  dsimp only at b1 d1
  obtain ⟨x2, rfl, b2, d2⟩ := aG_int g2
  dsimp only at b2 d2
  obtain ⟨x3, rfl, b3, d3⟩ := aG_int g3
  dsimp only at b3 d3
  obtain ⟨x4, rfl, b4, d4⟩ := aG_int g4
  dsimp only at b4 d4
  obtain ⟨x5, rfl, b5, d5⟩ := aG_int g5
  dsimp only at b5 d5
  obtain ⟨m1, m2, m3, m4⟩ := hM
  have l0 : 0 ≤ (1 * x5.toInt + (-1 * x4.toInt + 0)) + -1 := by
    obtain ⟨z, e6, e7⟩ := m3 ([(5, 1), (4, -1)], -1) (List.mem_of_getElem? (i := 0) rfl)
    obtain rfl : (1 * x5.toInt + (-1 * x4.toInt + 0)) = z := Option.some.inj (show some (1 * x5.toInt + (-1 * x4.toInt + 0)) = some z from e6)
    exact e7
  have l1 : 0 ≤ (-1 * x5.toInt + (1 * x4.toInt + 0)) + 1 := by
    obtain ⟨z, e6, e7⟩ := m3 ([(5, -1), (4, 1)], 1) (List.mem_of_getElem? (i := 1) rfl)
    obtain rfl : (-1 * x5.toInt + (1 * x4.toInt + 0)) = z := Option.some.inj (show some (-1 * x5.toInt + (1 * x4.toInt + 0)) = some z from e6)
    exact e7
  have f0 : fB K n p 85 [fR x0, fI x1, fI x2, fI x3, fI x4] σ := by
    obtain ⟨w, e6, e7⟩ := m4 (1365, [0, 1, 2, 3, 4]) (List.mem_of_getElem? (i := 0) rfl)
    obtain rfl : [fR x0, fI x1, fI x2, fI x3, fI x4] = w := Option.some.inj (show some [fR x0, fI x1, fI x2, fI x3, fI x4] = some w from e6)
    exact (fF_b (r := 1365) (by decide) rfl).mp e7
  clear m1 m2 m3 m4
  obtain ⟨a9_0, lo9_0, hi9_0, r9_0, S0, C0, e9_0, T0, V0⟩ := (fL_o (by decide) (by decide)).mp f0
  cases e9_0
  obtain ⟨y0_0, y0_1, e8_0, eS0, eC0⟩ := T0
  cases e8_0
  subst eS0
  subst eC0
  have q0 : fB K n (p) 83 [fR x0, fI x1, fI x2, fI x3, fI x5] σ := by
    refine (fL_o (by decide) (by decide)).mpr ⟨x0, x1, x2, _, _, _, rfl, ⟨x3, x5, rfl, rfl, rfl⟩, ?_⟩
    exact fCv_w V0 ((show _ = x1.toInt from rfl).trans (show x1.toInt = _ from rfl)) (by have e1 : fEc 85 = 0 := rfl; have e2 : fEc 83 = 0 := rfl; omega) (fun x h => h) (by
      rintro y ⟨j, j1, j2, j3, hp, hy⟩
      exact ⟨j, j1, j2, j3, by omega, hy⟩)
  exact ⟨p, fun _ => rfl, ⟨(fun q h => by cases h), fun q h => (by cases h), (fun f h => by cases h), (aAllc ⟨_, rfl, (fF_b (r := 1333) (by decide) rfl).mpr q0⟩ (fun f h => by cases h))⟩, [], List.mem_cons_self, fun f h => (by cases h)⟩
set_option maxRecDepth 8192 in
theorem rw_ruGHdEN {K : Nat → Nat} {n : Nat} : aGho (fF K n) fa_T K n (fJX K n) ag_ruGHdEN := by
  refine aGho_of ⟨rfl, rfl⟩ ?_
  intro p σ ρ hH hX hA hM
  have hG := aAG_of hA.1 (fun i e v he hv => (hA.2 i e v he hv).1)
  clear hA
  obtain ⟨v0, v1, v2, v3, v4, rfl, g0, g1, g2, g3, g4⟩ := fA_5 hG
  clear hG
  obtain ⟨x0, rfl, b0, d0⟩ := fG_ref (by decide) g0
  obtain ⟨x1, rfl, b1, d1⟩ := aG_int g1
  dsimp only at b1 d1
  obtain ⟨x2, rfl, b2, d2⟩ := aG_int g2
  dsimp only at b2 d2
  obtain ⟨x3, rfl, b3, d3⟩ := aG_int g3
  dsimp only at b3 d3
  obtain ⟨x4, rfl, b4, d4⟩ := aG_int g4
  dsimp only at b4 d4
  obtain ⟨m1, m2, m3, m4⟩ := hM
  have l0 : 0 ≤ (1 * x4.toInt + (-8 * x3.toInt + 0)) + -8 := by
    obtain ⟨z, e6, e7⟩ := m3 ([(4, 1), (3, -8)], -8) (List.mem_of_getElem? (i := 0) rfl)
    obtain rfl : (1 * x4.toInt + (-8 * x3.toInt + 0)) = z := Option.some.inj (show some (1 * x4.toInt + (-8 * x3.toInt + 0)) = some z from e6)
    exact e7
  have f0 : fB K n p 83 [fR x0, fI x1, fI x2, fI x3, fI x4] σ := by
    obtain ⟨w, e6, e7⟩ := m4 (1333, [0, 1, 2, 3, 4]) (List.mem_of_getElem? (i := 0) rfl)
    obtain rfl : [fR x0, fI x1, fI x2, fI x3, fI x4] = w := Option.some.inj (show some [fR x0, fI x1, fI x2, fI x3, fI x4] = some w from e6)
    exact (fF_b (r := 1333) (by decide) rfl).mp e7
  have f1 : fB K n p 35 [fI x3] σ := by
    obtain ⟨w, e6, e7⟩ := m4 (561, [3]) (List.mem_of_getElem? (i := 1) rfl)
    obtain rfl : [fI x3] = w := Option.some.inj (show some [fI x3] = some w from e6)
    exact (fF_b (r := 561) (by decide) rfl).mp e7
  clear m1 m2 m3 m4
  obtain ⟨a9_0, lo9_0, hi9_0, r9_0, S0, C0, e9_0, T0, V0⟩ := (fL_o (by decide) (by decide)).mp f0
  cases e9_0
  obtain ⟨y0_0, y0_1, e8_0, eS0, eC0⟩ := T0
  cases e8_0
  subst eS0
  subst eC0
  obtain ⟨y1_0, e9_1, h1⟩ := f1
  cases e9_1
  have hmk : ((fq p).1 x3.toInt.toNat).toInt % 8 = 2 := by
    unfold fOw at h1
    rw [fNc] at h1
    rw [h1]
    omega
  have q0 : fB K n (p) 81 [fR x0, fI x1, fI x2, fI x3] σ := by
    refine (fL_o (by decide) (by decide)).mpr ⟨x0, x1, x2, _, _, _, rfl, (Or.inl ⟨x3, rfl, rfl, rfl⟩), ?_⟩
    exact fCv_w V0 ((show _ = x1.toInt from rfl).trans (show x1.toInt = _ from rfl)) (by have e1 : fEc 83 = 0 := rfl; have e2 : fEc 81 = 0 := rfl; omega) (fun x h => Or.inr (Or.inl ⟨hmk, h⟩)) (by
      intro y hy
      unfold fGn at hy
      rw [hmk] at hy
      rcases hy with hy | ⟨-, j, j1, j2, j3, hp, hy⟩ | hy | hy
      · omega
      · exact ⟨j, j1, j2, j3, by omega, hy⟩
      · omega
      · omega)
  exact ⟨p, fun _ => rfl, ⟨(fun q h => by cases h), fun q h => (by cases h), (fun f h => by cases h), (aAllc ⟨_, rfl, (fF_b (r := 1300) (by decide) rfl).mpr q0⟩ (fun f h => by cases h))⟩, [], List.mem_cons_self, fun f h => (by cases h)⟩
set_option maxRecDepth 8192 in
theorem rw_ruGHeEN {K : Nat → Nat} {n : Nat} : aGho (fF K n) fa_T K n (fJX K n) ag_ruGHeEN := by
  refine aGho_of ⟨rfl, rfl⟩ ?_
  intro p σ ρ hH hX hA hM
  have hG := aAG_of hA.1 (fun i e v he hv => (hA.2 i e v he hv).1)
  clear hA
  obtain ⟨v0, v1, v2, v3, v4, v5, rfl, g0, g1, g2, g3, g4, g5⟩ := fA_6 hG
  clear hG
  obtain ⟨x0, rfl, b0, d0⟩ := fG_ref (by decide) g0
  obtain ⟨x1, rfl, b1, d1⟩ := aG_int g1
  dsimp only at b1 d1
  obtain ⟨x2, rfl, b2, d2⟩ := aG_int g2
  dsimp only at b2 d2
  obtain ⟨x3, rfl, b3, d3⟩ := aG_int g3
  dsimp only at b3 d3
  obtain ⟨x4, rfl, b4, d4⟩ := aG_int g4
  dsimp only at b4 d4
  obtain ⟨x5, rfl, b5, d5⟩ := aG_int g5
  dsimp only at b5 d5
  obtain ⟨m1, m2, m3, m4⟩ := hM
  have f0 : fB K n p 83 [fR x0, fI x1, fI x2, fI x3, fI x4] σ := by
    obtain ⟨w, e6, e7⟩ := m4 (1333, [0, 1, 2, 3, 4]) (List.mem_of_getElem? (i := 0) rfl)
    obtain rfl : [fR x0, fI x1, fI x2, fI x3, fI x4] = w := Option.some.inj (show some [fR x0, fI x1, fI x2, fI x3, fI x4] = some w from e6)
    exact (fF_b (r := 1333) (by decide) rfl).mp e7
  have f1 : fB K n p 204 [fI x3, fI x4, fI x5] σ := by
    obtain ⟨w, e6, e7⟩ := m4 (3267, [3, 4, 5]) (List.mem_of_getElem? (i := 1) rfl)
    obtain rfl : [fI x3, fI x4, fI x5] = w := Option.some.inj (show some [fI x3, fI x4, fI x5] = some w from e6)
    exact (fF_b (r := 3267) (by decide) rfl).mp e7
  have f2 : fB K n p 35 [fI x3] σ := by
    obtain ⟨w, e6, e7⟩ := m4 (561, [3]) (List.mem_of_getElem? (i := 2) rfl)
    obtain rfl : [fI x3] = w := Option.some.inj (show some [fI x3] = some w from e6)
    exact (fF_b (r := 561) (by decide) rfl).mp e7
  clear m1 m2 m3 m4
  obtain ⟨a9_0, lo9_0, hi9_0, r9_0, S0, C0, e9_0, T0, V0⟩ := (fL_o (by decide) (by decide)).mp f0
  cases e9_0
  obtain ⟨y0_0, y0_1, e8_0, eS0, eC0⟩ := T0
  cases e8_0
  subst eS0
  subst eC0
  obtain ⟨y1_0, y1_1, y1_2, e8_1, h1, i1, q1⟩ := (fP_o (by decide)).mp f1
  cases e8_1
  obtain ⟨y2_0, e9_2, h2⟩ := f2
  cases e9_2
  have hmk : ((fq p).1 x3.toInt.toNat).toInt % 8 = 2 := by
    unfold fOw at h2
    rw [fNc] at h2
    rw [h2]
    omega
  have q0 : fB K n (p) 81 [fR x0, fI x1, fI x2, fI x3] σ := by
    refine (fL_o (by decide) (by decide)).mpr ⟨x0, x1, x2, _, _, _, rfl, (Or.inl ⟨x3, rfl, rfl, rfl⟩), ?_⟩
    exact fCv_w V0 ((show _ = x1.toInt from rfl).trans (show x1.toInt = _ from rfl)) (by have e1 : fEc 83 = 0 := rfl; have e2 : fEc 81 = 0 := rfl; omega) (fun x h => Or.inr (Or.inl ⟨hmk, h⟩)) (by
      intro y hy
      unfold fGn at hy
      rw [hmk] at hy
      rcases hy with hy | ⟨-, j, j1, j2, j3, hp, hy⟩ | hy | hy
      · omega
      · refine ⟨j, j1, j2, j3, ?_, hy⟩
        by_cases hj : 8 * x3.toInt + j < x4.toInt
        · exact hj
        · have := fHp_no (s := x3.toInt.toNat) (i := (x4.toInt - 8 * x3.toInt).toNat) (j := j) (by omega) (by omega)
          omega
      · omega
      · omega)
  exact ⟨p, fun _ => rfl, ⟨(fun q h => by cases h), fun q h => (by cases h), (fun f h => by cases h), (aAllc ⟨_, rfl, (fF_b (r := 1300) (by decide) rfl).mpr q0⟩ (fun f h => by cases h))⟩, [], List.mem_cons_self, fun f h => (by cases h)⟩
set_option maxRecDepth 8192 in
theorem rw_ruGKaEN {K : Nat → Nat} {n : Nat} : aGho (fF K n) fa_T K n (fJX K n) ag_ruGKaEN := by
  refine aGho_of ⟨rfl, rfl⟩ ?_
  intro p σ ρ hH hX hA hM
  have hG := aAG_of hA.1 (fun i e v he hv => (hA.2 i e v he hv).1)
  clear hA
  obtain ⟨v0, v1, v2, v3, v4, rfl, g0, g1, g2, g3, g4⟩ := fA_5 hG
  clear hG
  obtain ⟨x0, rfl, b0, d0⟩ := fG_ref (by decide) g0
  obtain ⟨x1, rfl, b1, d1⟩ := aG_int g1
  dsimp only at b1 d1
  obtain ⟨x2, rfl, b2, d2⟩ := aG_int g2
  dsimp only at b2 d2
  obtain ⟨x3, rfl, b3, d3⟩ := aG_int g3
  dsimp only at b3 d3
  obtain ⟨x4, rfl, b4, d4⟩ := aG_int g4
  dsimp only at b4 d4
  obtain ⟨m1, m2, m3, m4⟩ := hM
  clear m1 m2 m3 m4
  have q0 : fB K n (p) 86 [fR x0, fI x1, fI x1, fI x2, fI x3, fI x4] σ := by
    obtain ⟨g, hg9⟩ := fRow hH b0 d0 rfl (by decide)
    refine (fL_o (by decide) (by decide)).mpr ⟨x0, x1, x1, _, _, _, rfl, ⟨x2, x3, x4, rfl, rfl, rfl⟩, ?_⟩
    exact fCv_0 b0 (by unfold fRw; omega) hg9 (by have e1 : fEc 86 = 0 := rfl; show x1.toInt + fEc 86 ≤ x1.toInt; omega) (by
      rintro x (⟨j, j1, j2, j3, j4, hp, -⟩ | h | h)
      · omega
      · exact h.1
      · exact h.1)
  exact ⟨p, fun _ => rfl, ⟨(fun q h => by cases h), fun q h => (by cases h), (fun f h => by cases h), (aAllc ⟨_, rfl, (fF_b (r := 1382) (by decide) rfl).mpr q0⟩ (fun f h => by cases h))⟩, [], List.mem_cons_self, fun f h => (by cases h)⟩
set_option maxRecDepth 8192 in
theorem rw_ruGKsEN {K : Nat → Nat} {n : Nat} : aGho (fF K n) fa_T K n (fJX K n) ag_ruGKsEN := by
  refine aGho_of ⟨rfl, rfl⟩ ?_
  intro p σ ρ hH hX hA hM
  have hG := aAG_of hA.1 (fun i e v he hv => (hA.2 i e v he hv).1)
  clear hA
  obtain ⟨v0, v1, v2, v3, v4, v5, v6, v7, rfl, g0, g1, g2, g3, g4, g5, g6, g7⟩ := fA_8 hG
  clear hG
  obtain ⟨x0, rfl, b0, d0⟩ := fG_ref (by decide) g0
  obtain ⟨x1, rfl, b1, d1⟩ := aG_int g1
  dsimp only at b1 d1
  obtain ⟨x2, rfl, b2, d2⟩ := aG_int g2
  dsimp only at b2 d2
  obtain ⟨x3, rfl, b3, d3⟩ := aG_int g3
  dsimp only at b3 d3
  obtain ⟨x4, rfl, b4, d4⟩ := aG_int g4
  dsimp only at b4 d4
  obtain ⟨x5, rfl, b5, d5⟩ := aG_int g5
  dsimp only at b5 d5
  obtain ⟨x6, rfl, b6, d6⟩ := aG_int g6
  dsimp only at b6 d6
  obtain ⟨x7, rfl, b7, d7⟩ := aG_int g7
  dsimp only at b7 d7
  obtain ⟨m1, m2, m3, m4⟩ := hM
  have l0 : 0 ≤ (1 * x2.toInt + (-512 * x4.toInt + (-8 * x5.toInt + 0))) + 0 := by
    obtain ⟨z, e6, e7⟩ := m3 ([(2, 1), (4, -512), (5, -8)], 0) (List.mem_of_getElem? (i := 0) rfl)
    obtain rfl : (1 * x2.toInt + (-512 * x4.toInt + (-8 * x5.toInt + 0))) = z := Option.some.inj (show some (1 * x2.toInt + (-512 * x4.toInt + (-8 * x5.toInt + 0))) = some z from e6)
    exact e7
  have l1 : 0 ≤ (-1 * x2.toInt + (512 * x4.toInt + (8 * x5.toInt + 0))) + 0 := by
    obtain ⟨z, e6, e7⟩ := m3 ([(2, -1), (4, 512), (5, 8)], 0) (List.mem_of_getElem? (i := 1) rfl)
    obtain rfl : (-1 * x2.toInt + (512 * x4.toInt + (8 * x5.toInt + 0))) = z := Option.some.inj (show some (-1 * x2.toInt + (512 * x4.toInt + (8 * x5.toInt + 0))) = some z from e6)
    exact e7
  have l2 : 0 ≤ (1 * x1.toInt + (-1 * x3.toInt + 0)) + 0 := by
    obtain ⟨z, e6, e7⟩ := m3 ([(1, 1), (3, -1)], 0) (List.mem_of_getElem? (i := 2) rfl)
    obtain rfl : (1 * x1.toInt + (-1 * x3.toInt + 0)) = z := Option.some.inj (show some (1 * x1.toInt + (-1 * x3.toInt + 0)) = some z from e6)
    exact e7
  have f0 : fB K n p 86 [fR x0, fI x3, fI x1, fI x4, fI x7, fI x6] σ := by
    obtain ⟨w, e6, e7⟩ := m4 (1382, [0, 3, 1, 4, 7, 6]) (List.mem_of_getElem? (i := 0) rfl)
    obtain rfl : [fR x0, fI x3, fI x1, fI x4, fI x7, fI x6] = w := Option.some.inj (show some [fR x0, fI x3, fI x1, fI x4, fI x7, fI x6] = some w from e6)
    exact (fF_b (r := 1382) (by decide) rfl).mp e7
  have f1 : fB K n p 50 [fI x4, fI x6, fI x5] σ := by
    obtain ⟨w, e6, e7⟩ := m4 (803, [4, 6, 5]) (List.mem_of_getElem? (i := 1) rfl)
    obtain rfl : [fI x4, fI x6, fI x5] = w := Option.some.inj (show some [fI x4, fI x6, fI x5] = some w from e6)
    exact (fF_b (r := 803) (by decide) rfl).mp e7
  have f2 : fB K n p 48 [fI x5] σ := by
    obtain ⟨w, e6, e7⟩ := m4 (769, [5]) (List.mem_of_getElem? (i := 2) rfl)
    obtain rfl : [fI x5] = w := Option.some.inj (show some [fI x5] = some w from e6)
    exact (fF_b (r := 769) (by decide) rfl).mp e7
  clear m1 m2 m3 m4
  obtain ⟨a9_0, lo9_0, hi9_0, r9_0, S0, C0, e9_0, T0, V0⟩ := (fL_o (by decide) (by decide)).mp f0
  cases e9_0
  obtain ⟨y0_0, y0_1, y0_2, e8_0, eS0, eC0⟩ := T0
  cases e8_0
  subst eS0
  subst eC0
  obtain ⟨y1_0, y1_1, y1_2, e8_1, h1, i1⟩ := (fE_o (by decide)).mp f1
  cases e8_1
  obtain ⟨y2_0, e8_2, h2⟩ := (fE_o (by decide)).mp f2
  cases e8_2
  have q0 : fB K n (p) 87 [fR x0, fI x3, fI x1, fI x4, fI x7, fI x6] (jup σ x0 (jsto (σ x0) x1.toNatClampNeg x2)) := by
    refine (fL_o (by decide) (by decide)).mpr ⟨x0, x3, x1, _, _, _, rfl, ⟨x4, x7, x6, rfl, rfl, rfl⟩, ?_⟩
    exact fCv_st V0 (by rw [fNc]; have e1 : fEc 86 = 0 := rfl; omega) (by have e1 : fEc 86 = 0 := rfl; show x3.toInt ≤ _; omega) (by have e1 : fEc 86 = 0 := rfl; have e2 : fEc 87 = 1 := rfl; omega) (Or.inl ⟨x6.toInt, by omega, by omega, i1, by rw [← h1]; exact h2, trivial, by rw [← h1]; omega⟩) (by
      rintro y (⟨j, j1, j2, j3, j4, hp, hy⟩ | h | h)
      · by_cases hh : j = x6.toInt
        · exact Or.inr (fI32 (by rw [hy, hh, ← h1]; omega))
        · exact Or.inl (Or.inl ⟨j, j1, j2, j3, j4, by omega, hy⟩)
      · exact h.1.elim
      · exact h.1.elim)
  exact ⟨p, fun _ => rfl, ⟨(fun q h => by cases h), fun q h => (by cases h), (fun f h => by cases h), (aAllc ⟨_, rfl, fF_p (r := 1398) (by decide) (by decide) rfl q0⟩ (fun f h => by cases h))⟩, [], List.mem_cons_self, fun f h => (by cases h)⟩
set_option maxRecDepth 8192 in
theorem rw_ruGKnEN {K : Nat → Nat} {n : Nat} : aGho (fF K n) fa_T K n (fJX K n) ag_ruGKnEN := by
  refine aGho_of ⟨rfl, rfl⟩ ?_
  intro p σ ρ hH hX hA hM
  have hG := aAG_of hA.1 (fun i e v he hv => (hA.2 i e v he hv).1)
  clear hA
  obtain ⟨v0, v1, v2, v3, v4, v5, v6, rfl, g0, g1, g2, g3, g4, g5, g6⟩ := fA_7 hG
  clear hG
  obtain ⟨x0, rfl, b0, d0⟩ := fG_ref (by decide) g0
  obtain ⟨x1, rfl, b1, d1⟩ := aG_int g1
  dsimp only at b1 d1
  obtain ⟨x2, rfl, b2, d2⟩ := aG_int g2
  dsimp only at b2 d2
  obtain ⟨x3, rfl, b3, d3⟩ := aG_int g3
  dsimp only at b3 d3
  obtain ⟨x4, rfl, b4, d4⟩ := aG_int g4
  dsimp only at b4 d4
  obtain ⟨x5, rfl, b5, d5⟩ := aG_int g5
  dsimp only at b5 d5
  obtain ⟨x6, rfl, b6, d6⟩ := aG_int g6
  dsimp only at b6 d6
  obtain ⟨m1, m2, m3, m4⟩ := hM
  have l0 : 0 ≤ (1 * x6.toInt + (-1 * x2.toInt + 0)) + -1 := by
    obtain ⟨z, e6, e7⟩ := m3 ([(6, 1), (2, -1)], -1) (List.mem_of_getElem? (i := 0) rfl)
    obtain rfl : (1 * x6.toInt + (-1 * x2.toInt + 0)) = z := Option.some.inj (show some (1 * x6.toInt + (-1 * x2.toInt + 0)) = some z from e6)
    exact e7
  have l1 : 0 ≤ (-1 * x6.toInt + (1 * x2.toInt + 0)) + 1 := by
    obtain ⟨z, e6, e7⟩ := m3 ([(6, -1), (2, 1)], 1) (List.mem_of_getElem? (i := 1) rfl)
    obtain rfl : (-1 * x6.toInt + (1 * x2.toInt + 0)) = z := Option.some.inj (show some (-1 * x6.toInt + (1 * x2.toInt + 0)) = some z from e6)
    exact e7
  have f0 : fB K n p 87 [fR x0, fI x1, fI x2, fI x3, fI x4, fI x5] σ := by
    obtain ⟨w, e6, e7⟩ := m4 (1398, [0, 1, 2, 3, 4, 5]) (List.mem_of_getElem? (i := 0) rfl)
    obtain rfl : [fR x0, fI x1, fI x2, fI x3, fI x4, fI x5] = w := Option.some.inj (show some [fR x0, fI x1, fI x2, fI x3, fI x4, fI x5] = some w from e6)
    exact (fF_b (r := 1398) (by decide) rfl).mp e7
  clear m1 m2 m3 m4
  obtain ⟨a9_0, lo9_0, hi9_0, r9_0, S0, C0, e9_0, T0, V0⟩ := (fL_o (by decide) (by decide)).mp f0
  cases e9_0
  obtain ⟨y0_0, y0_1, y0_2, e8_0, eS0, eC0⟩ := T0
  cases e8_0
  subst eS0
  subst eC0
  have q0 : fB K n (p) 88 [fR x0, fI x1, fI x6, fI x3, fI x4, fI x5] σ := by
    refine (fL_o (by decide) (by decide)).mpr ⟨x0, x1, x6, _, _, _, rfl, ⟨x3, x4, x5, rfl, rfl, rfl⟩, ?_⟩
    exact fCv_w V0 ((show _ = x1.toInt from rfl).trans (show x1.toInt = _ from rfl)) (by have e1 : fEc 87 = 1 := rfl; have e2 : fEc 88 = 0 := rfl; omega) (fun x h => h) (by
      exact fun x h => h)
  exact ⟨p, fun _ => rfl, ⟨(fun q h => by cases h), fun q h => (by cases h), (fun f h => by cases h), (aAllc ⟨_, rfl, (fF_b (r := 1414) (by decide) rfl).mpr q0⟩ (fun f h => by cases h))⟩, [], List.mem_cons_self, fun f h => (by cases h)⟩
set_option maxRecDepth 8192 in
theorem rw_ruGKoEN {K : Nat → Nat} {n : Nat} : aGho (fF K n) fa_T K n (fJX K n) ag_ruGKoEN := by
  refine aGho_of ⟨rfl, rfl⟩ ?_
  intro p σ ρ hH hX hA hM
  have hG := aAG_of hA.1 (fun i e v he hv => (hA.2 i e v he hv).1)
  clear hA
  obtain ⟨v0, v1, v2, v3, v4, v5, v6, rfl, g0, g1, g2, g3, g4, g5, g6⟩ := fA_7 hG
  clear hG
  obtain ⟨x0, rfl, b0, d0⟩ := fG_ref (by decide) g0
  obtain ⟨x1, rfl, b1, d1⟩ := aG_int g1
  dsimp only at b1 d1
  obtain ⟨x2, rfl, b2, d2⟩ := aG_int g2
  dsimp only at b2 d2
  obtain ⟨x3, rfl, b3, d3⟩ := aG_int g3
  dsimp only at b3 d3
  obtain ⟨x4, rfl, b4, d4⟩ := aG_int g4
  dsimp only at b4 d4
  obtain ⟨x5, rfl, b5, d5⟩ := aG_int g5
  dsimp only at b5 d5
  obtain ⟨x6, rfl, b6, d6⟩ := aG_int g6
  dsimp only at b6 d6
  obtain ⟨m1, m2, m3, m4⟩ := hM
  have f0 : fB K n p 86 [fR x0, fI x1, fI x2, fI x3, fI x4, fI x5] σ := by
    obtain ⟨w, e6, e7⟩ := m4 (1382, [0, 1, 2, 3, 4, 5]) (List.mem_of_getElem? (i := 0) rfl)
    obtain rfl : [fR x0, fI x1, fI x2, fI x3, fI x4, fI x5] = w := Option.some.inj (show some [fR x0, fI x1, fI x2, fI x3, fI x4, fI x5] = some w from e6)
    exact (fF_b (r := 1382) (by decide) rfl).mp e7
  have f1 : fB K n p 50 [fI x3, fI x5, fI x6] σ := by
    obtain ⟨w, e6, e7⟩ := m4 (803, [3, 5, 6]) (List.mem_of_getElem? (i := 1) rfl)
    obtain rfl : [fI x3, fI x5, fI x6] = w := Option.some.inj (show some [fI x3, fI x5, fI x6] = some w from e6)
    exact (fF_b (r := 803) (by decide) rfl).mp e7
  have f2 : fB K n p 49 [fI x6] σ := by
    obtain ⟨w, e6, e7⟩ := m4 (785, [6]) (List.mem_of_getElem? (i := 2) rfl)
    obtain rfl : [fI x6] = w := Option.some.inj (show some [fI x6] = some w from e6)
    exact (fF_b (r := 785) (by decide) rfl).mp e7
  clear m1 m2 m3 m4
  obtain ⟨a9_0, lo9_0, hi9_0, r9_0, S0, C0, e9_0, T0, V0⟩ := (fL_o (by decide) (by decide)).mp f0
  cases e9_0
  obtain ⟨y0_0, y0_1, y0_2, e8_0, eS0, eC0⟩ := T0
  cases e8_0
  subst eS0
  subst eC0
  obtain ⟨y1_0, y1_1, y1_2, e8_1, h1, i1⟩ := (fE_o (by decide)).mp f1
  cases e8_1
  obtain ⟨y2_0, e8_2, h2⟩ := (fE_o (by decide)).mp f2
  cases e8_2
  have q0 : fB K n (p) 88 [fR x0, fI x1, fI x2, fI x3, fI x4, fI x5] σ := by
    refine (fL_o (by decide) (by decide)).mpr ⟨x0, x1, x2, _, _, _, rfl, ⟨x3, x4, x5, rfl, rfl, rfl⟩, ?_⟩
    exact fCv_w V0 ((show _ = x1.toInt from rfl).trans (show x1.toInt = _ from rfl)) (by have e1 : fEc 86 = 0 := rfl; have e2 : fEc 88 = 0 := rfl; omega) (fun x h => h) (by
      rintro y (⟨j, j1, j2, j3, j4, hp, hy⟩ | h | h)
      · by_cases hh : j = x5.toInt
        · exfalso
          rw [hh, ← h1] at j4
          exact j4.elim h2.1 (fun h => h h2.2)
        · exact Or.inl ⟨j, j1, j2, j3, j4, by omega, hy⟩
      · exact h.1.elim
      · exact h.1.elim)
  exact ⟨p, fun _ => rfl, ⟨(fun q h => by cases h), fun q h => (by cases h), (fun f h => by cases h), (aAllc ⟨_, rfl, (fF_b (r := 1414) (by decide) rfl).mpr q0⟩ (fun f h => by cases h))⟩, [], List.mem_cons_self, fun f h => (by cases h)⟩
set_option maxRecDepth 8192 in
theorem rw_ruGKzEN {K : Nat → Nat} {n : Nat} : aGho (fF K n) fa_T K n (fJX K n) ag_ruGKzEN := by
  refine aGho_of ⟨rfl, rfl⟩ ?_
  intro p σ ρ hH hX hA hM
  have hG := aAG_of hA.1 (fun i e v he hv => (hA.2 i e v he hv).1)
  clear hA
  obtain ⟨v0, v1, v2, v3, v4, v5, v6, rfl, g0, g1, g2, g3, g4, g5, g6⟩ := fA_7 hG
  clear hG
  obtain ⟨x0, rfl, b0, d0⟩ := fG_ref (by decide) g0
  obtain ⟨x1, rfl, b1, d1⟩ := aG_int g1
  dsimp only at b1 d1
  obtain ⟨x2, rfl, b2, d2⟩ := aG_int g2
  dsimp only at b2 d2
  obtain ⟨x3, rfl, b3, d3⟩ := aG_int g3
  dsimp only at b3 d3
  obtain ⟨x4, rfl, b4, d4⟩ := aG_int g4
  dsimp only at b4 d4
  obtain ⟨x5, rfl, b5, d5⟩ := aG_int g5
  dsimp only at b5 d5
  obtain ⟨x6, rfl, b6, d6⟩ := aG_int g6
  dsimp only at b6 d6
  obtain ⟨m1, m2, m3, m4⟩ := hM
  have f0 : fB K n p 86 [fR x0, fI x1, fI x2, fI x3, fI x4, fI x5] σ := by
    obtain ⟨w, e6, e7⟩ := m4 (1382, [0, 1, 2, 3, 4, 5]) (List.mem_of_getElem? (i := 0) rfl)
    obtain rfl : [fR x0, fI x1, fI x2, fI x3, fI x4, fI x5] = w := Option.some.inj (show some [fR x0, fI x1, fI x2, fI x3, fI x4, fI x5] = some w from e6)
    exact (fF_b (r := 1382) (by decide) rfl).mp e7
  have f1 : fB K n p 19 [fI x3, fI x5, fI x6] σ := by
    obtain ⟨w, e6, e7⟩ := m4 (307, [3, 5, 6]) (List.mem_of_getElem? (i := 1) rfl)
    obtain rfl : [fI x3, fI x5, fI x6] = w := Option.some.inj (show some [fI x3, fI x5, fI x6] = some w from e6)
    exact (fF_b (r := 307) (by decide) rfl).mp e7
  clear m1 m2 m3 m4
  obtain ⟨a9_0, lo9_0, hi9_0, r9_0, S0, C0, e9_0, T0, V0⟩ := (fL_o (by decide) (by decide)).mp f0
  cases e9_0
  obtain ⟨y0_0, y0_1, y0_2, e8_0, eS0, eC0⟩ := T0
  cases e8_0
  subst eS0
  subst eC0
  obtain ⟨y1_0, y1_1, y1_2, e9_1, h1⟩ := f1
  cases e9_1
  have q0 : fB K n (p) 88 [fR x0, fI x1, fI x2, fI x3, fI x4, fI x5] σ := by
    refine (fL_o (by decide) (by decide)).mpr ⟨x0, x1, x2, _, _, _, rfl, ⟨x3, x4, x5, rfl, rfl, rfl⟩, ?_⟩
    exact fCv_w V0 ((show _ = x1.toInt from rfl).trans (show x1.toInt = _ from rfl)) (by have e1 : fEc 86 = 0 := rfl; have e2 : fEc 88 = 0 := rfl; omega) (fun x h => h) (by
      rintro y (⟨j, j1, j2, j3, j4, hp, hy⟩ | h | h)
      · by_cases hh : j = x5.toInt
        · rw [hh] at j3
          omega
        · exact Or.inl ⟨j, j1, j2, j3, j4, by omega, hy⟩
      · exact h.1.elim
      · exact h.1.elim)
  exact ⟨p, fun _ => rfl, ⟨(fun q h => by cases h), fun q h => (by cases h), (fun f h => by cases h), (aAllc ⟨_, rfl, (fF_b (r := 1414) (by decide) rfl).mpr q0⟩ (fun f h => by cases h))⟩, [], List.mem_cons_self, fun f h => (by cases h)⟩
set_option maxRecDepth 8192 in
theorem rw_ruGKqEN {K : Nat → Nat} {n : Nat} : aGho (fF K n) fa_T K n (fJX K n) ag_ruGKqEN := by
  refine aGho_of ⟨rfl, rfl⟩ ?_
  intro p σ ρ hH hX hA hM
  have hG := aAG_of hA.1 (fun i e v he hv => (hA.2 i e v he hv).1)
  clear hA
  obtain ⟨v0, v1, v2, v3, v4, v5, v6, rfl, g0, g1, g2, g3, g4, g5, g6⟩ := fA_7 hG
  clear hG
  obtain ⟨x0, rfl, b0, d0⟩ := fG_ref (by decide) g0
  obtain ⟨x1, rfl, b1, d1⟩ := aG_int g1
  dsimp only at b1 d1
  obtain ⟨x2, rfl, b2, d2⟩ := aG_int g2
  dsimp only at b2 d2
  obtain ⟨x3, rfl, b3, d3⟩ := aG_int g3
  dsimp only at b3 d3
  obtain ⟨x4, rfl, b4, d4⟩ := aG_int g4
  dsimp only at b4 d4
  obtain ⟨x5, rfl, b5, d5⟩ := aG_int g5
  dsimp only at b5 d5
  obtain ⟨x6, rfl, b6, d6⟩ := aG_int g6
  dsimp only at b6 d6
  obtain ⟨m1, m2, m3, m4⟩ := hM
  have l0 : 0 ≤ (1 * x6.toInt + (-1 * x5.toInt + 0)) + -1 := by
    obtain ⟨z, e6, e7⟩ := m3 ([(6, 1), (5, -1)], -1) (List.mem_of_getElem? (i := 0) rfl)
    obtain rfl : (1 * x6.toInt + (-1 * x5.toInt + 0)) = z := Option.some.inj (show some (1 * x6.toInt + (-1 * x5.toInt + 0)) = some z from e6)
    exact e7
  have l1 : 0 ≤ (-1 * x6.toInt + (1 * x5.toInt + 0)) + 1 := by
    obtain ⟨z, e6, e7⟩ := m3 ([(6, -1), (5, 1)], 1) (List.mem_of_getElem? (i := 1) rfl)
    obtain rfl : (-1 * x6.toInt + (1 * x5.toInt + 0)) = z := Option.some.inj (show some (-1 * x6.toInt + (1 * x5.toInt + 0)) = some z from e6)
    exact e7
  have f0 : fB K n p 88 [fR x0, fI x1, fI x2, fI x3, fI x4, fI x5] σ := by
    obtain ⟨w, e6, e7⟩ := m4 (1414, [0, 1, 2, 3, 4, 5]) (List.mem_of_getElem? (i := 0) rfl)
    obtain rfl : [fR x0, fI x1, fI x2, fI x3, fI x4, fI x5] = w := Option.some.inj (show some [fR x0, fI x1, fI x2, fI x3, fI x4, fI x5] = some w from e6)
    exact (fF_b (r := 1414) (by decide) rfl).mp e7
  clear m1 m2 m3 m4
  obtain ⟨a9_0, lo9_0, hi9_0, r9_0, S0, C0, e9_0, T0, V0⟩ := (fL_o (by decide) (by decide)).mp f0
  cases e9_0
  obtain ⟨y0_0, y0_1, y0_2, e8_0, eS0, eC0⟩ := T0
  cases e8_0
  subst eS0
  subst eC0
  have q0 : fB K n (p) 86 [fR x0, fI x1, fI x2, fI x3, fI x4, fI x6] σ := by
    refine (fL_o (by decide) (by decide)).mpr ⟨x0, x1, x2, _, _, _, rfl, ⟨x3, x4, x6, rfl, rfl, rfl⟩, ?_⟩
    exact fCv_w V0 ((show _ = x1.toInt from rfl).trans (show x1.toInt = _ from rfl)) (by have e1 : fEc 88 = 0 := rfl; have e2 : fEc 86 = 0 := rfl; omega) (fun x h => h) (by
      rintro y (⟨j, j1, j2, j3, j4, hp, hy⟩ | h | h)
      · exact Or.inl ⟨j, j1, j2, j3, j4, by omega, hy⟩
      · exact h.1.elim
      · exact h.1.elim)
  exact ⟨p, fun _ => rfl, ⟨(fun q h => by cases h), fun q h => (by cases h), (fun f h => by cases h), (aAllc ⟨_, rfl, (fF_b (r := 1382) (by decide) rfl).mpr q0⟩ (fun f h => by cases h))⟩, [], List.mem_cons_self, fun f h => (by cases h)⟩
set_option maxRecDepth 8192 in
theorem rw_ruGKdEN {K : Nat → Nat} {n : Nat} : aGho (fF K n) fa_T K n (fJX K n) ag_ruGKdEN := by
  refine aGho_of ⟨rfl, rfl⟩ ?_
  intro p σ ρ hH hX hA hM
  have hG := aAG_of hA.1 (fun i e v he hv => (hA.2 i e v he hv).1)
  clear hA
  obtain ⟨v0, v1, v2, v3, v4, v5, rfl, g0, g1, g2, g3, g4, g5⟩ := fA_6 hG
  clear hG
  obtain ⟨x0, rfl, b0, d0⟩ := fG_ref (by decide) g0
  obtain ⟨x1, rfl, b1, d1⟩ := aG_int g1
  dsimp only at b1 d1
  obtain ⟨x2, rfl, b2, d2⟩ := aG_int g2
  dsimp only at b2 d2
  obtain ⟨x3, rfl, b3, d3⟩ := aG_int g3
  dsimp only at b3 d3
  obtain ⟨x4, rfl, b4, d4⟩ := aG_int g4
  dsimp only at b4 d4
  obtain ⟨x5, rfl, b5, d5⟩ := aG_int g5
  dsimp only at b5 d5
  obtain ⟨m1, m2, m3, m4⟩ := hM
  have f0 : fB K n p 86 [fR x0, fI x1, fI x2, fI x3, fI x4, fI x5] σ := by
    obtain ⟨w, e6, e7⟩ := m4 (1382, [0, 1, 2, 3, 4, 5]) (List.mem_of_getElem? (i := 0) rfl)
    obtain rfl : [fR x0, fI x1, fI x2, fI x3, fI x4, fI x5] = w := Option.some.inj (show some [fR x0, fI x1, fI x2, fI x3, fI x4, fI x5] = some w from e6)
    exact (fF_b (r := 1382) (by decide) rfl).mp e7
  clear m1 m2 m3 m4
  obtain ⟨a9_0, lo9_0, hi9_0, r9_0, S0, C0, e9_0, T0, V0⟩ := (fL_o (by decide) (by decide)).mp f0
  cases e9_0
  obtain ⟨y0_0, y0_1, y0_2, e8_0, eS0, eC0⟩ := T0
  cases e8_0
  subst eS0
  subst eC0
  have q0 : fB K n (p) 89 [fR x0, fI x1, fI x2, fI x3, fI x4] σ := by
    refine (fL_o (by decide) (by decide)).mpr ⟨x0, x1, x2, _, _, _, rfl, ⟨x3, x4, rfl, rfl, rfl⟩, ?_⟩
    exact fCv_w V0 ((show _ = x1.toInt from rfl).trans (show x1.toInt = _ from rfl)) (by have e1 : fEc 86 = 0 := rfl; have e2 : fEc 89 = 0 := rfl; omega) (fun x h => h) (by
      rintro y (⟨j, j1, j2, j3, j4, hp, hy⟩ | h | h)
      · exact Or.inl ⟨j, j1, j2, j3, j4, by omega, hy⟩
      · exact h.1.elim
      · exact h.1.elim)
  exact ⟨p, fun _ => rfl, ⟨(fun q h => by cases h), fun q h => (by cases h), (fun f h => by cases h), (aAllc ⟨_, rfl, (fF_b (r := 1429) (by decide) rfl).mpr q0⟩ (fun f h => by cases h))⟩, [], List.mem_cons_self, fun f h => (by cases h)⟩
set_option maxRecDepth 8192 in
theorem rw_ruGKeEN {K : Nat → Nat} {n : Nat} : aGho (fF K n) fa_T K n (fJX K n) ag_ruGKeEN := by
  refine aGho_of ⟨rfl, rfl⟩ ?_
  intro p σ ρ hH hX hA hM
  have hG := aAG_of hA.1 (fun i e v he hv => (hA.2 i e v he hv).1)
  clear hA
  obtain ⟨v0, v1, v2, v3, v4, rfl, g0, g1, g2, g3, g4⟩ := fA_5 hG
  clear hG
  obtain ⟨x0, rfl, b0, d0⟩ := fG_ref (by decide) g0
  obtain ⟨x1, rfl, b1, d1⟩ := aG_int g1
  dsimp only at b1 d1
  obtain ⟨x2, rfl, b2, d2⟩ := aG_int g2
  dsimp only at b2 d2
  obtain ⟨x3, rfl, b3, d3⟩ := aG_int g3
  dsimp only at b3 d3
  obtain ⟨x4, rfl, b4, d4⟩ := aG_int g4
  dsimp only at b4 d4
  obtain ⟨m1, m2, m3, m4⟩ := hM
  have f0 : fB K n p 89 [fR x0, fI x1, fI x2, fI x3, fI x4] σ := by
    obtain ⟨w, e6, e7⟩ := m4 (1429, [0, 1, 2, 3, 4]) (List.mem_of_getElem? (i := 0) rfl)
    obtain rfl : [fR x0, fI x1, fI x2, fI x3, fI x4] = w := Option.some.inj (show some [fR x0, fI x1, fI x2, fI x3, fI x4] = some w from e6)
    exact (fF_b (r := 1429) (by decide) rfl).mp e7
  have f1 : fB K n p 36 [fI x3] σ := by
    obtain ⟨w, e6, e7⟩ := m4 (577, [3]) (List.mem_of_getElem? (i := 1) rfl)
    obtain rfl : [fI x3] = w := Option.some.inj (show some [fI x3] = some w from e6)
    exact (fF_b (r := 577) (by decide) rfl).mp e7
  clear m1 m2 m3 m4
  obtain ⟨a9_0, lo9_0, hi9_0, r9_0, S0, C0, e9_0, T0, V0⟩ := (fL_o (by decide) (by decide)).mp f0
  cases e9_0
  obtain ⟨y0_0, y0_1, e8_0, eS0, eC0⟩ := T0
  cases e8_0
  subst eS0
  subst eC0
  obtain ⟨y1_0, e9_1, h1⟩ := f1
  cases e9_1
  have hmk : ((fq p).1 x3.toInt.toNat).toInt % 8 = 6 := by
    unfold fOw at h1
    rw [fNc] at h1
    rw [h1]
    omega
  have q0 : fB K n (p) 82 [fR x0, fI x1, fI x2, fI x3, fI x4] σ := by
    refine (fL_o (by decide) (by decide)).mpr ⟨x0, x1, x2, _, _, _, rfl, (Or.inl ⟨x3, x4, rfl, rfl, rfl⟩), ?_⟩
    exact fCv_w V0 ((show _ = x1.toInt from rfl).trans (show x1.toInt = _ from rfl)) (by have e1 : fEc 89 = 0 := rfl; have e2 : fEc 82 = 0 := rfl; omega) (fun x h => Or.inr (Or.inr (Or.inl ⟨hmk, h⟩))) (by
      intro y hy
      unfold fGn at hy
      rw [hmk] at hy
      rcases hy with hy | hy | ⟨-, hy⟩ | hy
      · omega
      · omega
      · rcases hy with hy | ⟨-, hc, hy⟩ | ⟨-, hc, hy⟩
        · exact Or.inl hy
        · have := hc.1
          omega
        · have := hc.1
          omega
      · omega)
  exact ⟨p, fun _ => rfl, ⟨(fun q h => by cases h), fun q h => (by cases h), (fun f h => by cases h), (aAllc ⟨_, rfl, (fF_b (r := 1317) (by decide) rfl).mpr q0⟩ (fun f h => by cases h))⟩, [], List.mem_cons_self, fun f h => (by cases h)⟩
set_option maxRecDepth 8192 in
theorem rw_ruGKahEN {K : Nat → Nat} {n : Nat} : aGho (fF K n) fa_T K n (fJX K n) ag_ruGKahEN := by
  refine aGho_of ⟨rfl, rfl⟩ ?_
  intro p σ ρ hH hX hA hM
  have hG := aAG_of hA.1 (fun i e v he hv => (hA.2 i e v he hv).1)
  clear hA
  obtain ⟨v0, v1, v2, v3, v4, v5, v6, rfl, g0, g1, g2, g3, g4, g5, g6⟩ := fA_7 hG
  clear hG
  obtain ⟨x0, rfl, b0, d0⟩ := fG_ref (by decide) g0
  obtain ⟨x1, rfl, b1, d1⟩ := aG_int g1
  dsimp only at b1 d1
  obtain ⟨x2, rfl, b2, d2⟩ := aG_int g2
  dsimp only at b2 d2
  obtain ⟨x3, rfl, b3, d3⟩ := aG_int g3
  dsimp only at b3 d3
  obtain ⟨x4, rfl, b4, d4⟩ := aG_int g4
  dsimp only at b4 d4
  obtain ⟨x5, rfl, b5, d5⟩ := fG_ref (by decide) g5
  obtain ⟨x6, rfl, b6, d6⟩ := aG_int g6
  dsimp only at b6 d6
  obtain ⟨m1, m2, m3, m4⟩ := hM
  obtain ⟨a0, c0, fs0, w0, e1, s0, t0, e4⟩ := m1 (5, 2, 6) (List.mem_of_getElem? (i := 0) rfl)
  obtain rfl : x5 = a0 := Sum.inl.inj (Option.some.inj (Sum.inr.inj (Sum.inr.inj (Option.some.inj (show some (fR x5) = some _ from e1)))))
  obtain rfl : fI x6 = w0 := Option.some.inj (show some (fI x6) = some w0 from e4)
  clear e1 e4
  have f0 : fB K n p 1 [fR x5] σ := by
    obtain ⟨w, e6, e7⟩ := m4 (17, [5]) (List.mem_of_getElem? (i := 0) rfl)
    obtain rfl : [fR x5] = w := Option.some.inj (show some [fR x5] = some w from e6)
    exact (fF_b (r := 17) (by decide) rfl).mp e7
  have f1 : fB K n p 89 [fR x0, fI x1, fI x2, fI x3, fI x4] σ := by
    obtain ⟨w, e6, e7⟩ := m4 (1429, [0, 1, 2, 3, 4]) (List.mem_of_getElem? (i := 1) rfl)
    obtain rfl : [fR x0, fI x1, fI x2, fI x3, fI x4] = w := Option.some.inj (show some [fR x0, fI x1, fI x2, fI x3, fI x4] = some w from e6)
    exact (fF_b (r := 1429) (by decide) rfl).mp e7
  have f2 : fB K n p 36 [fI x3] σ := by
    obtain ⟨w, e6, e7⟩ := m4 (577, [3]) (List.mem_of_getElem? (i := 2) rfl)
    obtain rfl : [fI x3] = w := Option.some.inj (show some [fI x3] = some w from e6)
    exact (fF_b (r := 577) (by decide) rfl).mp e7
  clear m1 m2 m3 m4
  obtain ⟨a9_0, e9_0, h0, g0⟩ := f0
  cases e9_0
  obtain ⟨a9_1, lo9_1, hi9_1, r9_1, S1, C1, e9_1, T1, V1⟩ := (fL_o (by decide) (by decide)).mp f1
  cases e9_1
  obtain ⟨y1_0, y1_1, e8_1, eS1, eC1⟩ := T1
  cases e8_1
  subst eS1
  subst eC1
  obtain ⟨y2_0, e9_2, h2⟩ := f2
  cases e9_2
  have hmk : ((fq p).1 x3.toInt.toNat).toInt % 8 = 6 := by
    unfold fOw at h2
    rw [fNc] at h2
    rw [h2]
    omega
  have hF := fAt_of h0 s0
  have hsd := hF.2.1 x6 t0
  have q0 : fB K n (p) 82 [fR x0, fI x1, fI x2, fI x3, fI x4] σ := by
    refine (fL_o (by decide) (by decide)).mpr ⟨x0, x1, x2, _, _, _, rfl, (Or.inl ⟨x3, x4, rfl, rfl, rfl⟩), ?_⟩
    exact fCv_w V1 ((show _ = x1.toInt from rfl).trans (show x1.toInt = _ from rfl)) (by have e1 : fEc 89 = 0 := rfl; have e2 : fEc 82 = 0 := rfl; omega) (fun x h => Or.inr (Or.inr (Or.inl ⟨hmk, h⟩))) (by
      intro y hy
      unfold fGn at hy
      rw [hmk] at hy
      rcases hy with hy | hy | ⟨-, hy⟩ | hy
      · omega
      · omega
      · rcases hy with hy | ⟨-, hc, hy⟩ | ⟨-, hc, hy⟩
        · exact Or.inl hy
        · have h9 := hc.2.1
          rw [← hsd] at h9
          omega
        · have h9 := hc.2.1
          rw [← hsd] at h9
          omega
      · omega)
  exact ⟨p, fun _ => rfl, ⟨(fun q h => by cases h), fun q h => (by cases h), (fun f h => by cases h), (aAllc ⟨_, rfl, (fF_b (r := 1317) (by decide) rfl).mpr q0⟩ (fun f h => by cases h))⟩, [], List.mem_cons_self, fun f h => (by cases h)⟩
set_option maxRecDepth 8192 in
theorem rw_ruGKbhEN {K : Nat → Nat} {n : Nat} : aGho (fF K n) fa_T K n (fJX K n) ag_ruGKbhEN := by
  refine aGho_of ⟨rfl, rfl⟩ ?_
  intro p σ ρ hH hX hA hM
  have hG := aAG_of hA.1 (fun i e v he hv => (hA.2 i e v he hv).1)
  clear hA
  obtain ⟨v0, v1, v2, v3, v4, v5, v6, rfl, g0, g1, g2, g3, g4, g5, g6⟩ := fA_7 hG
  clear hG
  obtain ⟨x0, rfl, b0, d0⟩ := fG_ref (by decide) g0
  obtain ⟨x1, rfl, b1, d1⟩ := aG_int g1
  dsimp only at b1 d1
  obtain ⟨x2, rfl, b2, d2⟩ := aG_int g2
  dsimp only at b2 d2
  obtain ⟨x3, rfl, b3, d3⟩ := aG_int g3
  dsimp only at b3 d3
  obtain ⟨x4, rfl, b4, d4⟩ := aG_int g4
  dsimp only at b4 d4
  obtain ⟨x5, rfl, b5, d5⟩ := fG_ref (by decide) g5
  obtain ⟨x6, rfl, b6, d6⟩ := aG_int g6
  dsimp only at b6 d6
  obtain ⟨m1, m2, m3, m4⟩ := hM
  obtain ⟨a0, c0, fs0, w0, e1, s0, t0, e4⟩ := m1 (5, 2, 6) (List.mem_of_getElem? (i := 0) rfl)
  obtain rfl : x5 = a0 := Sum.inl.inj (Option.some.inj (Sum.inr.inj (Sum.inr.inj (Option.some.inj (show some (fR x5) = some _ from e1)))))
  obtain rfl : fI x6 = w0 := Option.some.inj (show some (fI x6) = some w0 from e4)
  clear e1 e4
  have f0 : fB K n p 1 [fR x5] σ := by
    obtain ⟨w, e6, e7⟩ := m4 (17, [5]) (List.mem_of_getElem? (i := 0) rfl)
    obtain rfl : [fR x5] = w := Option.some.inj (show some [fR x5] = some w from e6)
    exact (fF_b (r := 17) (by decide) rfl).mp e7
  have f1 : fB K n p 89 [fR x0, fI x1, fI x2, fI x3, fI x4] σ := by
    obtain ⟨w, e6, e7⟩ := m4 (1429, [0, 1, 2, 3, 4]) (List.mem_of_getElem? (i := 1) rfl)
    obtain rfl : [fR x0, fI x1, fI x2, fI x3, fI x4] = w := Option.some.inj (show some [fR x0, fI x1, fI x2, fI x3, fI x4] = some w from e6)
    exact (fF_b (r := 1429) (by decide) rfl).mp e7
  have f2 : fB K n p 36 [fI x3] σ := by
    obtain ⟨w, e6, e7⟩ := m4 (577, [3]) (List.mem_of_getElem? (i := 2) rfl)
    obtain rfl : [fI x3] = w := Option.some.inj (show some [fI x3] = some w from e6)
    exact (fF_b (r := 577) (by decide) rfl).mp e7
  clear m1 m2 m3 m4
  obtain ⟨a9_0, e9_0, h0, g0⟩ := f0
  cases e9_0
  obtain ⟨a9_1, lo9_1, hi9_1, r9_1, S1, C1, e9_1, T1, V1⟩ := (fL_o (by decide) (by decide)).mp f1
  cases e9_1
  obtain ⟨y1_0, y1_1, e8_1, eS1, eC1⟩ := T1
  cases e8_1
  subst eS1
  subst eC1
  obtain ⟨y2_0, e9_2, h2⟩ := f2
  cases e9_2
  have hmk : ((fq p).1 x3.toInt.toNat).toInt % 8 = 6 := by
    unfold fOw at h2
    rw [fNc] at h2
    rw [h2]
    omega
  have hF := fAt_of h0 s0
  have hsd := hF.2.1 x6 t0
  have q0 : fB K n (p) 82 [fR x0, fI x1, fI x2, fI x3, fI x4] σ := by
    refine (fL_o (by decide) (by decide)).mpr ⟨x0, x1, x2, _, _, _, rfl, (Or.inl ⟨x3, x4, rfl, rfl, rfl⟩), ?_⟩
    exact fCv_w V1 ((show _ = x1.toInt from rfl).trans (show x1.toInt = _ from rfl)) (by have e1 : fEc 89 = 0 := rfl; have e2 : fEc 82 = 0 := rfl; omega) (fun x h => Or.inr (Or.inr (Or.inl ⟨hmk, h⟩))) (by
      intro y hy
      unfold fGn at hy
      rw [hmk] at hy
      rcases hy with hy | hy | ⟨-, hy⟩ | hy
      · omega
      · omega
      · rcases hy with hy | ⟨-, hc, hy⟩ | ⟨-, hc, hy⟩
        · exact Or.inl hy
        · have h9 := hc.2.1
          rw [← hsd] at h9
          omega
        · have h9 := hc.2.1
          rw [← hsd] at h9
          omega
      · omega)
  exact ⟨p, fun _ => rfl, ⟨(fun q h => by cases h), fun q h => (by cases h), (fun f h => by cases h), (aAllc ⟨_, rfl, (fF_b (r := 1317) (by decide) rfl).mpr q0⟩ (fun f h => by cases h))⟩, [], List.mem_cons_self, fun f h => (by cases h)⟩
set_option maxRecDepth 8192 in
theorem rw_ruGKchEN {K : Nat → Nat} {n : Nat} : aGho (fF K n) fa_T K n (fJX K n) ag_ruGKchEN := by
  refine aGho_of ⟨rfl, rfl⟩ ?_
  intro p σ ρ hH hX hA hM
  have hG := aAG_of hA.1 (fun i e v he hv => (hA.2 i e v he hv).1)
  clear hA
  obtain ⟨v0, v1, v2, v3, v4, v5, v6, rfl, g0, g1, g2, g3, g4, g5, g6⟩ := fA_7 hG
  clear hG
  obtain ⟨x0, rfl, b0, d0⟩ := fG_ref (by decide) g0
  obtain ⟨x1, rfl, b1, d1⟩ := aG_int g1
  dsimp only at b1 d1
  obtain ⟨x2, rfl, b2, d2⟩ := aG_int g2
  dsimp only at b2 d2
  obtain ⟨x3, rfl, b3, d3⟩ := aG_int g3
  dsimp only at b3 d3
  obtain ⟨x4, rfl, b4, d4⟩ := aG_int g4
  dsimp only at b4 d4
  obtain ⟨x5, rfl, b5, d5⟩ := fG_ref (by decide) g5
  obtain ⟨x6, rfl, b6, d6⟩ := aG_int g6
  dsimp only at b6 d6
  obtain ⟨m1, m2, m3, m4⟩ := hM
  obtain ⟨a0, c0, fs0, w0, e1, s0, t0, e4⟩ := m1 (5, 2, 6) (List.mem_of_getElem? (i := 0) rfl)
  obtain rfl : x5 = a0 := Sum.inl.inj (Option.some.inj (Sum.inr.inj (Sum.inr.inj (Option.some.inj (show some (fR x5) = some _ from e1)))))
  obtain rfl : fI x6 = w0 := Option.some.inj (show some (fI x6) = some w0 from e4)
  clear e1 e4
  have f0 : fB K n p 1 [fR x5] σ := by
    obtain ⟨w, e6, e7⟩ := m4 (17, [5]) (List.mem_of_getElem? (i := 0) rfl)
    obtain rfl : [fR x5] = w := Option.some.inj (show some [fR x5] = some w from e6)
    exact (fF_b (r := 17) (by decide) rfl).mp e7
  have f1 : fB K n p 89 [fR x0, fI x1, fI x2, fI x3, fI x4] σ := by
    obtain ⟨w, e6, e7⟩ := m4 (1429, [0, 1, 2, 3, 4]) (List.mem_of_getElem? (i := 1) rfl)
    obtain rfl : [fR x0, fI x1, fI x2, fI x3, fI x4] = w := Option.some.inj (show some [fR x0, fI x1, fI x2, fI x3, fI x4] = some w from e6)
    exact (fF_b (r := 1429) (by decide) rfl).mp e7
  have f2 : fB K n p 36 [fI x3] σ := by
    obtain ⟨w, e6, e7⟩ := m4 (577, [3]) (List.mem_of_getElem? (i := 2) rfl)
    obtain rfl : [fI x3] = w := Option.some.inj (show some [fI x3] = some w from e6)
    exact (fF_b (r := 577) (by decide) rfl).mp e7
  clear m1 m2 m3 m4
  obtain ⟨a9_0, e9_0, h0, g0⟩ := f0
  cases e9_0
  obtain ⟨a9_1, lo9_1, hi9_1, r9_1, S1, C1, e9_1, T1, V1⟩ := (fL_o (by decide) (by decide)).mp f1
  cases e9_1
  obtain ⟨y1_0, y1_1, e8_1, eS1, eC1⟩ := T1
  cases e8_1
  subst eS1
  subst eC1
  obtain ⟨y2_0, e9_2, h2⟩ := f2
  cases e9_2
  have hmk : ((fq p).1 x3.toInt.toNat).toInt % 8 = 6 := by
    unfold fOw at h2
    rw [fNc] at h2
    rw [h2]
    omega
  have hF := fAt_of h0 s0
  have hsd := hF.2.1 x6 t0
  have q0 : fB K n (p) 82 [fR x0, fI x1, fI x2, fI x3, fI x4] σ := by
    refine (fL_o (by decide) (by decide)).mpr ⟨x0, x1, x2, _, _, _, rfl, (Or.inl ⟨x3, x4, rfl, rfl, rfl⟩), ?_⟩
    exact fCv_w V1 ((show _ = x1.toInt from rfl).trans (show x1.toInt = _ from rfl)) (by have e1 : fEc 89 = 0 := rfl; have e2 : fEc 82 = 0 := rfl; omega) (fun x h => Or.inr (Or.inr (Or.inl ⟨hmk, h⟩))) (by
      intro y hy
      unfold fGn at hy
      rw [hmk] at hy
      rcases hy with hy | hy | ⟨-, hy⟩ | hy
      · omega
      · omega
      · rcases hy with hy | ⟨-, hc, hy⟩ | ⟨-, hc, hy⟩
        · exact Or.inl hy
        · have h9 := hc.2.1
          rw [← hsd] at h9
          omega
        · have h9 := hc.2.1
          rw [← hsd] at h9
          omega
      · omega)
  exact ⟨p, fun _ => rfl, ⟨(fun q h => by cases h), fun q h => (by cases h), (fun f h => by cases h), (aAllc ⟨_, rfl, (fF_b (r := 1317) (by decide) rfl).mpr q0⟩ (fun f h => by cases h))⟩, [], List.mem_cons_self, fun f h => (by cases h)⟩
set_option maxRecDepth 8192 in
theorem rw_ruGKdhEN {K : Nat → Nat} {n : Nat} : aGho (fF K n) fa_T K n (fJX K n) ag_ruGKdhEN := by
  refine aGho_of ⟨rfl, rfl⟩ ?_
  intro p σ ρ hH hX hA hM
  have hG := aAG_of hA.1 (fun i e v he hv => (hA.2 i e v he hv).1)
  clear hA
  obtain ⟨v0, v1, v2, v3, v4, v5, v6, rfl, g0, g1, g2, g3, g4, g5, g6⟩ := fA_7 hG
  clear hG
  obtain ⟨x0, rfl, b0, d0⟩ := fG_ref (by decide) g0
  obtain ⟨x1, rfl, b1, d1⟩ := aG_int g1
  dsimp only at b1 d1
  obtain ⟨x2, rfl, b2, d2⟩ := aG_int g2
  dsimp only at b2 d2
  obtain ⟨x3, rfl, b3, d3⟩ := aG_int g3
  dsimp only at b3 d3
  obtain ⟨x4, rfl, b4, d4⟩ := aG_int g4
  dsimp only at b4 d4
  obtain ⟨x5, rfl, b5, d5⟩ := fG_ref (by decide) g5
  obtain ⟨x6, rfl, b6, d6⟩ := aG_int g6
  dsimp only at b6 d6
  obtain ⟨m1, m2, m3, m4⟩ := hM
  obtain ⟨a0, c0, fs0, w0, e1, s0, t0, e4⟩ := m1 (5, 2, 6) (List.mem_of_getElem? (i := 0) rfl)
  obtain rfl : x5 = a0 := Sum.inl.inj (Option.some.inj (Sum.inr.inj (Sum.inr.inj (Option.some.inj (show some (fR x5) = some _ from e1)))))
  obtain rfl : fI x6 = w0 := Option.some.inj (show some (fI x6) = some w0 from e4)
  clear e1 e4
  have f0 : fB K n p 1 [fR x5] σ := by
    obtain ⟨w, e6, e7⟩ := m4 (17, [5]) (List.mem_of_getElem? (i := 0) rfl)
    obtain rfl : [fR x5] = w := Option.some.inj (show some [fR x5] = some w from e6)
    exact (fF_b (r := 17) (by decide) rfl).mp e7
  have f1 : fB K n p 89 [fR x0, fI x1, fI x2, fI x3, fI x4] σ := by
    obtain ⟨w, e6, e7⟩ := m4 (1429, [0, 1, 2, 3, 4]) (List.mem_of_getElem? (i := 1) rfl)
    obtain rfl : [fR x0, fI x1, fI x2, fI x3, fI x4] = w := Option.some.inj (show some [fR x0, fI x1, fI x2, fI x3, fI x4] = some w from e6)
    exact (fF_b (r := 1429) (by decide) rfl).mp e7
  have f2 : fB K n p 36 [fI x3] σ := by
    obtain ⟨w, e6, e7⟩ := m4 (577, [3]) (List.mem_of_getElem? (i := 2) rfl)
    obtain rfl : [fI x3] = w := Option.some.inj (show some [fI x3] = some w from e6)
    exact (fF_b (r := 577) (by decide) rfl).mp e7
  clear m1 m2 m3 m4
  obtain ⟨a9_0, e9_0, h0, g0⟩ := f0
  cases e9_0
  obtain ⟨a9_1, lo9_1, hi9_1, r9_1, S1, C1, e9_1, T1, V1⟩ := (fL_o (by decide) (by decide)).mp f1
  cases e9_1
  obtain ⟨y1_0, y1_1, e8_1, eS1, eC1⟩ := T1
  cases e8_1
  subst eS1
  subst eC1
  obtain ⟨y2_0, e9_2, h2⟩ := f2
  cases e9_2
  have hmk : ((fq p).1 x3.toInt.toNat).toInt % 8 = 6 := by
    unfold fOw at h2
    rw [fNc] at h2
    rw [h2]
    omega
  have hF := fAt_of h0 s0
  have hsd := hF.2.1 x6 t0
  have q0 : fB K n (p) 82 [fR x0, fI x1, fI x2, fI x3, fI x4] σ := by
    refine (fL_o (by decide) (by decide)).mpr ⟨x0, x1, x2, _, _, _, rfl, (Or.inl ⟨x3, x4, rfl, rfl, rfl⟩), ?_⟩
    exact fCv_w V1 ((show _ = x1.toInt from rfl).trans (show x1.toInt = _ from rfl)) (by have e1 : fEc 89 = 0 := rfl; have e2 : fEc 82 = 0 := rfl; omega) (fun x h => Or.inr (Or.inr (Or.inl ⟨hmk, h⟩))) (by
      intro y hy
      unfold fGn at hy
      rw [hmk] at hy
      rcases hy with hy | hy | ⟨-, hy⟩ | hy
      · omega
      · omega
      · rcases hy with hy | ⟨-, hc, hy⟩ | ⟨-, hc, hy⟩
        · exact Or.inl hy
        · have h9 := hc.2.1
          rw [← hsd] at h9
          omega
        · have h9 := hc.2.1
          rw [← hsd] at h9
          omega
      · omega)
  exact ⟨p, fun _ => rfl, ⟨(fun q h => by cases h), fun q h => (by cases h), (fun f h => by cases h), (aAllc ⟨_, rfl, (fF_b (r := 1317) (by decide) rfl).mpr q0⟩ (fun f h => by cases h))⟩, [], List.mem_cons_self, fun f h => (by cases h)⟩
set_option maxRecDepth 8192 in
theorem rw_ruGCvEN {K : Nat → Nat} {n : Nat} : aGho (fF K n) fa_T K n (fJX K n) ag_ruGCvEN := by
  refine aGho_of ⟨rfl, rfl⟩ ?_
  intro p σ ρ hH hX hA hM
  have hG := aAG_of hA.1 (fun i e v he hv => (hA.2 i e v he hv).1)
  clear hA
  obtain ⟨v0, v1, v2, v3, v4, v5, v6, v7, v8, v9, rfl, g0, g1, g2, g3, g4, g5, g6, g7, g8, g9⟩ := fA_10 hG
  clear hG
  obtain ⟨x0, rfl, b0, d0⟩ := fG_ref (by decide) g0
  obtain ⟨x1, rfl, b1, d1⟩ := aG_int g1
  dsimp only at b1 d1
  obtain ⟨x2, rfl, b2, d2⟩ := aG_int g2
  dsimp only at b2 d2
  obtain ⟨x3, rfl, b3, d3⟩ := aG_int g3
  dsimp only at b3 d3
  obtain ⟨x4, rfl, b4, d4⟩ := aG_int g4
  dsimp only at b4 d4
  obtain ⟨x5, rfl, b5, d5⟩ := aG_int g5
  dsimp only at b5 d5
  obtain ⟨x6, rfl, b6, d6⟩ := fG_ref (by decide) g6
  obtain ⟨x7, rfl, b7, d7⟩ := aG_int g7
  dsimp only at b7 d7
  obtain ⟨x8, rfl, b8, d8⟩ := aG_int g8
  dsimp only at b8 d8
  obtain ⟨x9, rfl, b9, d9⟩ := aG_int g9
  dsimp only at b9 d9
  obtain ⟨m1, m2, m3, m4⟩ := hM
  obtain ⟨a0, c0, fs0, w0, e1, s0, t0, e4⟩ := m1 (6, 2, 9) (List.mem_of_getElem? (i := 0) rfl)
  obtain rfl : x6 = a0 := Sum.inl.inj (Option.some.inj (Sum.inr.inj (Sum.inr.inj (Option.some.inj (show some (fR x6) = some _ from e1)))))
  obtain rfl : fI x9 = w0 := Option.some.inj (show some (fI x9) = some w0 from e4)
  clear e1 e4
  have l0 : 0 ≤ (1 * x2.toInt + (-520 * x4.toInt + 0)) + -16 := by
    obtain ⟨z, e6, e7⟩ := m3 ([(2, 1), (4, -520)], -16) (List.mem_of_getElem? (i := 0) rfl)
    obtain rfl : (1 * x2.toInt + (-520 * x4.toInt + 0)) = z := Option.some.inj (show some (1 * x2.toInt + (-520 * x4.toInt + 0)) = some z from e6)
    exact e7
  have l1 : 0 ≤ (-1 * x2.toInt + (520 * x4.toInt + 0)) + 16 := by
    obtain ⟨z, e6, e7⟩ := m3 ([(2, -1), (4, 520)], 16) (List.mem_of_getElem? (i := 1) rfl)
    obtain rfl : (-1 * x2.toInt + (520 * x4.toInt + 0)) = z := Option.some.inj (show some (-1 * x2.toInt + (520 * x4.toInt + 0)) = some z from e6)
    exact e7
  have l2 : 0 ≤ (1 * x4.toInt + (-56 * x9.toInt + 0)) + -4 := by
    obtain ⟨z, e6, e7⟩ := m3 ([(4, 1), (9, -56)], -4) (List.mem_of_getElem? (i := 2) rfl)
    obtain rfl : (1 * x4.toInt + (-56 * x9.toInt + 0)) = z := Option.some.inj (show some (1 * x4.toInt + (-56 * x9.toInt + 0)) = some z from e6)
    exact e7
  have l3 : 0 ≤ (-1 * x4.toInt + (56 * x9.toInt + 0)) + 4 := by
    obtain ⟨z, e6, e7⟩ := m3 ([(4, -1), (9, 56)], 4) (List.mem_of_getElem? (i := 3) rfl)
    obtain rfl : (-1 * x4.toInt + (56 * x9.toInt + 0)) = z := Option.some.inj (show some (-1 * x4.toInt + (56 * x9.toInt + 0)) = some z from e6)
    exact e7
  have l4 : 0 ≤ (1 * x1.toInt + (-1 * x3.toInt + 0)) + 0 := by
    obtain ⟨z, e6, e7⟩ := m3 ([(1, 1), (3, -1)], 0) (List.mem_of_getElem? (i := 4) rfl)
    obtain rfl : (1 * x1.toInt + (-1 * x3.toInt + 0)) = z := Option.some.inj (show some (1 * x1.toInt + (-1 * x3.toInt + 0)) = some z from e6)
    exact e7
  have f0 : fB K n p 1 [fR x6] σ := by
    obtain ⟨w, e6, e7⟩ := m4 (17, [6]) (List.mem_of_getElem? (i := 0) rfl)
    obtain rfl : [fR x6] = w := Option.some.inj (show some [fR x6] = some w from e6)
    exact (fF_b (r := 17) (by decide) rfl).mp e7
  have f1 : fB K n p 89 [fR x0, fI x3, fI x1, fI x4, fI x5] σ := by
    obtain ⟨w, e6, e7⟩ := m4 (1429, [0, 3, 1, 4, 5]) (List.mem_of_getElem? (i := 1) rfl)
    obtain rfl : [fR x0, fI x3, fI x1, fI x4, fI x5] = w := Option.some.inj (show some [fR x0, fI x3, fI x1, fI x4, fI x5] = some w from e6)
    exact (fF_b (r := 1429) (by decide) rfl).mp e7
  have f2 : fB K n p 51 [fI x4] σ := by
    obtain ⟨w, e6, e7⟩ := m4 (817, [4]) (List.mem_of_getElem? (i := 2) rfl)
    obtain rfl : [fI x4] = w := Option.some.inj (show some [fI x4] = some w from e6)
    exact (fF_b (r := 817) (by decide) rfl).mp e7
  have f3 : fB K n p 40 [fI x4, fI x7] σ := by
    obtain ⟨w, e6, e7⟩ := m4 (642, [4, 7]) (List.mem_of_getElem? (i := 3) rfl)
    obtain rfl : [fI x4, fI x7] = w := Option.some.inj (show some [fI x4, fI x7] = some w from e6)
    exact (fF_b (r := 642) (by decide) rfl).mp e7
  have f4 : fB K n p 41 [fI x4, fI x8] σ := by
    obtain ⟨w, e6, e7⟩ := m4 (658, [4, 8]) (List.mem_of_getElem? (i := 4) rfl)
    obtain rfl : [fI x4, fI x8] = w := Option.some.inj (show some [fI x4, fI x8] = some w from e6)
    exact (fF_b (r := 658) (by decide) rfl).mp e7
  clear m1 m2 m3 m4
  obtain ⟨a9_0, e9_0, h0, g0⟩ := f0
  cases e9_0
  obtain ⟨a9_1, lo9_1, hi9_1, r9_1, S1, C1, e9_1, T1, V1⟩ := (fL_o (by decide) (by decide)).mp f1
  cases e9_1
  obtain ⟨y1_0, y1_1, e8_1, eS1, eC1⟩ := T1
  cases e8_1
  subst eS1
  subst eC1
  obtain ⟨y2_0, e8_2, h2⟩ := (fE_o (by decide)).mp f2
  cases e8_2
  obtain ⟨y3_0, y3_1, e9_3, h3⟩ := f3
  cases e9_3
  obtain ⟨y4_0, y4_1, e9_4, h4⟩ := f4
  cases e9_4
  have hF := fAt_of h0 s0
  have hsd := hF.2.1 x9 t0
  have q0 : fB K n (p) 90 [fR x0, fI x3, fI x1, fI x4, fI x5] (jup σ x0 (jsto (σ x0) x1.toNatClampNeg x2)) := by
    refine (fL_o (by decide) (by decide)).mpr ⟨x0, x3, x1, _, _, _, rfl, ⟨x4, x5, rfl, rfl, rfl⟩, ?_⟩
    exact fCv_st V1 (by rw [fNc]; have e1 : fEc 89 = 0 := rfl; omega) (by have e1 : fEc 89 = 0 := rfl; show x3.toInt ≤ _; omega) (by have e1 : fEc 89 = 0 := rfl; have e2 : fEc 90 = 1 := rfl; omega) (Or.inr (Or.inl ⟨trivial, ⟨by omega, by rw [← hsd]; omega, h2, by rw [h3]; omega, by rw [h4]; omega⟩, by omega⟩)) (by
      rintro y (hy | ⟨-, hc, hy⟩ | h)
      · exact Or.inl (Or.inl hy)
      · exact Or.inr (fI32 (by rw [hy]; omega))
      · exact h.1.elim)
  exact ⟨p, fun _ => rfl, ⟨(fun q h => by cases h), fun q h => (by cases h), (fun f h => by cases h), (aAllc ⟨_, rfl, fF_p (r := 1445) (by decide) (by decide) rfl q0⟩ (fun f h => by cases h))⟩, [], List.mem_cons_self, fun f h => (by cases h)⟩
set_option maxRecDepth 8192 in
theorem rw_ruGCwEN {K : Nat → Nat} {n : Nat} : aGho (fF K n) fa_T K n (fJX K n) ag_ruGCwEN := by
  refine aGho_of ⟨rfl, rfl⟩ ?_
  intro p σ ρ hH hX hA hM
  have hG := aAG_of hA.1 (fun i e v he hv => (hA.2 i e v he hv).1)
  clear hA
  obtain ⟨v0, v1, v2, v3, v4, v5, v6, v7, v8, v9, v10, rfl, g0, g1, g2, g3, g4, g5, g6, g7, g8, g9, g10⟩ := fA_11 hG
  clear hG
  obtain ⟨x0, rfl, b0, d0⟩ := fG_ref (by decide) g0
  obtain ⟨x1, rfl, b1, d1⟩ := aG_int g1
  dsimp only at b1 d1
  obtain ⟨x2, rfl, b2, d2⟩ := aG_int g2
  dsimp only at b2 d2
  obtain ⟨x3, rfl, b3, d3⟩ := aG_int g3
  dsimp only at b3 d3
  obtain ⟨x4, rfl, b4, d4⟩ := aG_int g4
  dsimp only at b4 d4
  obtain ⟨x5, rfl, b5, d5⟩ := aG_int g5
  dsimp only at b5 d5
  obtain ⟨x6, rfl, b6, d6⟩ := fG_ref (by decide) g6
  obtain ⟨x7, rfl, b7, d7⟩ := aG_int g7
  dsimp only at b7 d7
  obtain ⟨x8, rfl, b8, d8⟩ := aG_int g8
  dsimp only at b8 d8
  obtain ⟨x9, rfl, b9, d9⟩ := aG_int g9
  dsimp only at b9 d9
  obtain ⟨x10, rfl, b10, d10⟩ := aG_int g10
  dsimp only at b10 d10
  obtain ⟨m1, m2, m3, m4⟩ := hM
  obtain ⟨a0, c0, fs0, w0, e1, s0, t0, e4⟩ := m1 (6, 2, 10) (List.mem_of_getElem? (i := 0) rfl)
  obtain rfl : x6 = a0 := Sum.inl.inj (Option.some.inj (Sum.inr.inj (Sum.inr.inj (Option.some.inj (show some (fR x6) = some _ from e1)))))
  obtain rfl : fI x10 = w0 := Option.some.inj (show some (fI x10) = some w0 from e4)
  clear e1 e4
  have l0 : 0 ≤ (1 * x2.toInt + (-520 * x4.toInt + 0)) + 16 := by
    obtain ⟨z, e6, e7⟩ := m3 ([(2, 1), (4, -520)], 16) (List.mem_of_getElem? (i := 0) rfl)
    obtain rfl : (1 * x2.toInt + (-520 * x4.toInt + 0)) = z := Option.some.inj (show some (1 * x2.toInt + (-520 * x4.toInt + 0)) = some z from e6)
    exact e7
  have l1 : 0 ≤ (-1 * x2.toInt + (520 * x4.toInt + 0)) + -16 := by
    obtain ⟨z, e6, e7⟩ := m3 ([(2, -1), (4, 520)], -16) (List.mem_of_getElem? (i := 1) rfl)
    obtain rfl : (-1 * x2.toInt + (520 * x4.toInt + 0)) = z := Option.some.inj (show some (-1 * x2.toInt + (520 * x4.toInt + 0)) = some z from e6)
    exact e7
  have l2 : 0 ≤ (1 * x4.toInt + (-56 * x10.toInt + 0)) + -4 := by
    obtain ⟨z, e6, e7⟩ := m3 ([(4, 1), (10, -56)], -4) (List.mem_of_getElem? (i := 2) rfl)
    obtain rfl : (1 * x4.toInt + (-56 * x10.toInt + 0)) = z := Option.some.inj (show some (1 * x4.toInt + (-56 * x10.toInt + 0)) = some z from e6)
    exact e7
  have l3 : 0 ≤ (-1 * x4.toInt + (56 * x10.toInt + 0)) + 4 := by
    obtain ⟨z, e6, e7⟩ := m3 ([(4, -1), (10, 56)], 4) (List.mem_of_getElem? (i := 3) rfl)
    obtain rfl : (-1 * x4.toInt + (56 * x10.toInt + 0)) = z := Option.some.inj (show some (-1 * x4.toInt + (56 * x10.toInt + 0)) = some z from e6)
    exact e7
  have l4 : 0 ≤ (1 * x1.toInt + (-1 * x3.toInt + 0)) + 0 := by
    obtain ⟨z, e6, e7⟩ := m3 ([(1, 1), (3, -1)], 0) (List.mem_of_getElem? (i := 4) rfl)
    obtain rfl : (1 * x1.toInt + (-1 * x3.toInt + 0)) = z := Option.some.inj (show some (1 * x1.toInt + (-1 * x3.toInt + 0)) = some z from e6)
    exact e7
  have f0 : fB K n p 1 [fR x6] σ := by
    obtain ⟨w, e6, e7⟩ := m4 (17, [6]) (List.mem_of_getElem? (i := 0) rfl)
    obtain rfl : [fR x6] = w := Option.some.inj (show some [fR x6] = some w from e6)
    exact (fF_b (r := 17) (by decide) rfl).mp e7
  have f1 : fB K n p 91 [fR x0, fI x3, fI x1, fI x4, fI x5] σ := by
    obtain ⟨w, e6, e7⟩ := m4 (1461, [0, 3, 1, 4, 5]) (List.mem_of_getElem? (i := 1) rfl)
    obtain rfl : [fR x0, fI x3, fI x1, fI x4, fI x5] = w := Option.some.inj (show some [fR x0, fI x3, fI x1, fI x4, fI x5] = some w from e6)
    exact (fF_b (r := 1461) (by decide) rfl).mp e7
  have f2 : fB K n p 53 [fI x4] σ := by
    obtain ⟨w, e6, e7⟩ := m4 (849, [4]) (List.mem_of_getElem? (i := 2) rfl)
    obtain rfl : [fI x4] = w := Option.some.inj (show some [fI x4] = some w from e6)
    exact (fF_b (r := 849) (by decide) rfl).mp e7
  have f3 : fB K n p 42 [fI x4, fI x7] σ := by
    obtain ⟨w, e6, e7⟩ := m4 (674, [4, 7]) (List.mem_of_getElem? (i := 3) rfl)
    obtain rfl : [fI x4, fI x7] = w := Option.some.inj (show some [fI x4, fI x7] = some w from e6)
    exact (fF_b (r := 674) (by decide) rfl).mp e7
  have f4 : fB K n p 43 [fI x4, fI x8] σ := by
    obtain ⟨w, e6, e7⟩ := m4 (690, [4, 8]) (List.mem_of_getElem? (i := 4) rfl)
    obtain rfl : [fI x4, fI x8] = w := Option.some.inj (show some [fI x4, fI x8] = some w from e6)
    exact (fF_b (r := 690) (by decide) rfl).mp e7
  have f5 : fB K n p 55 [fI x4, fI x9] σ := by
    obtain ⟨w, e6, e7⟩ := m4 (882, [4, 9]) (List.mem_of_getElem? (i := 5) rfl)
    obtain rfl : [fI x4, fI x9] = w := Option.some.inj (show some [fI x4, fI x9] = some w from e6)
    exact (fF_b (r := 882) (by decide) rfl).mp e7
  clear m1 m2 m3 m4
  obtain ⟨a9_0, e9_0, h0, g0⟩ := f0
  cases e9_0
  obtain ⟨a9_1, lo9_1, hi9_1, r9_1, S1, C1, e9_1, T1, V1⟩ := (fL_o (by decide) (by decide)).mp f1
  cases e9_1
  obtain ⟨y1_0, y1_1, e8_1, eS1, eC1⟩ := T1
  cases e8_1
  subst eS1
  subst eC1
  obtain ⟨y2_0, e8_2, h2⟩ := (fE_o (by decide)).mp f2
  cases e8_2
  obtain ⟨y3_0, y3_1, e9_3, h3⟩ := f3
  cases e9_3
  obtain ⟨y4_0, y4_1, e9_4, h4⟩ := f4
  cases e9_4
  obtain ⟨y5_0, y5_1, e8_5, h5⟩ := (fE_o (by decide)).mp f5
  cases e8_5
  have hF := fAt_of h0 s0
  have hsd := hF.2.1 x10 t0
  have q0 : fB K n (p) 92 [fR x0, fI x3, fI x1, fI x4, fI x5] (jup σ x0 (jsto (σ x0) x1.toNatClampNeg x2)) := by
    refine (fL_o (by decide) (by decide)).mpr ⟨x0, x3, x1, _, _, _, rfl, ⟨x4, x5, rfl, rfl, rfl⟩, ?_⟩
    exact fCv_st V1 (by rw [fNc]; have e1 : fEc 91 = 0 := rfl; omega) (by have e1 : fEc 91 = 0 := rfl; show x3.toInt ≤ _; omega) (by have e1 : fEc 91 = 0 := rfl; have e2 : fEc 92 = 1 := rfl; omega) (Or.inr (Or.inr ⟨trivial, ⟨by omega, by rw [← hsd]; omega, h2, by rw [h3]; omega, by rw [h4]; omega, by rw [h5]; omega⟩, by omega⟩)) (by
      rintro y (hy | hy | ⟨-, hc, hy⟩)
      · exact Or.inl (Or.inl hy)
      · exact Or.inl (Or.inr (Or.inl hy))
      · exact Or.inr (fI32 (by rw [hy]; omega)))
  exact ⟨p, fun _ => rfl, ⟨(fun q h => by cases h), fun q h => (by cases h), (fun f h => by cases h), (aAllc ⟨_, rfl, fF_p (r := 1477) (by decide) (by decide) rfl q0⟩ (fun f h => by cases h))⟩, [], List.mem_cons_self, fun f h => (by cases h)⟩
set_option maxRecDepth 8192 in
theorem rw_ruGCnEN {K : Nat → Nat} {n : Nat} : aGho (fF K n) fa_T K n (fJX K n) ag_ruGCnEN := by
  refine aGho_of ⟨rfl, rfl⟩ ?_
  intro p σ ρ hH hX hA hM
  have hG := aAG_of hA.1 (fun i e v he hv => (hA.2 i e v he hv).1)
  clear hA
  obtain ⟨v0, v1, v2, v3, v4, v5, rfl, g0, g1, g2, g3, g4, g5⟩ := fA_6 hG
  clear hG
  obtain ⟨x0, rfl, b0, d0⟩ := fG_ref (by decide) g0
  obtain ⟨x1, rfl, b1, d1⟩ := aG_int g1
  dsimp only at b1 d1
  obtain ⟨x2, rfl, b2, d2⟩ := aG_int g2
  dsimp only at b2 d2
  obtain ⟨x3, rfl, b3, d3⟩ := aG_int g3
  dsimp only at b3 d3
  obtain ⟨x4, rfl, b4, d4⟩ := aG_int g4
  dsimp only at b4 d4
  obtain ⟨x5, rfl, b5, d5⟩ := aG_int g5
  dsimp only at b5 d5
  obtain ⟨m1, m2, m3, m4⟩ := hM
  have l0 : 0 ≤ (1 * x5.toInt + (-1 * x2.toInt + 0)) + -1 := by
    obtain ⟨z, e6, e7⟩ := m3 ([(5, 1), (2, -1)], -1) (List.mem_of_getElem? (i := 0) rfl)
    obtain rfl : (1 * x5.toInt + (-1 * x2.toInt + 0)) = z := Option.some.inj (show some (1 * x5.toInt + (-1 * x2.toInt + 0)) = some z from e6)
    exact e7
  have l1 : 0 ≤ (-1 * x5.toInt + (1 * x2.toInt + 0)) + 1 := by
    obtain ⟨z, e6, e7⟩ := m3 ([(5, -1), (2, 1)], 1) (List.mem_of_getElem? (i := 1) rfl)
    obtain rfl : (-1 * x5.toInt + (1 * x2.toInt + 0)) = z := Option.some.inj (show some (-1 * x5.toInt + (1 * x2.toInt + 0)) = some z from e6)
    exact e7
  have f0 : fB K n p 90 [fR x0, fI x1, fI x2, fI x3, fI x4] σ := by
    obtain ⟨w, e6, e7⟩ := m4 (1445, [0, 1, 2, 3, 4]) (List.mem_of_getElem? (i := 0) rfl)
    obtain rfl : [fR x0, fI x1, fI x2, fI x3, fI x4] = w := Option.some.inj (show some [fR x0, fI x1, fI x2, fI x3, fI x4] = some w from e6)
    exact (fF_b (r := 1445) (by decide) rfl).mp e7
  clear m1 m2 m3 m4
  obtain ⟨a9_0, lo9_0, hi9_0, r9_0, S0, C0, e9_0, T0, V0⟩ := (fL_o (by decide) (by decide)).mp f0
  cases e9_0
  obtain ⟨y0_0, y0_1, e8_0, eS0, eC0⟩ := T0
  cases e8_0
  subst eS0
  subst eC0
  have q0 : fB K n (p) 91 [fR x0, fI x1, fI x5, fI x3, fI x4] σ := by
    refine (fL_o (by decide) (by decide)).mpr ⟨x0, x1, x5, _, _, _, rfl, ⟨x3, x4, rfl, rfl, rfl⟩, ?_⟩
    exact fCv_w V0 ((show _ = x1.toInt from rfl).trans (show x1.toInt = _ from rfl)) (by have e1 : fEc 90 = 1 := rfl; have e2 : fEc 91 = 0 := rfl; omega) (fun x h => h) (by
      exact fun x h => h)
  exact ⟨p, fun _ => rfl, ⟨(fun q h => by cases h), fun q h => (by cases h), (fun f h => by cases h), (aAllc ⟨_, rfl, (fF_b (r := 1461) (by decide) rfl).mpr q0⟩ (fun f h => by cases h))⟩, [], List.mem_cons_self, fun f h => (by cases h)⟩
set_option maxRecDepth 8192 in
theorem rw_ruGDnEN {K : Nat → Nat} {n : Nat} : aGho (fF K n) fa_T K n (fJX K n) ag_ruGDnEN := by
  refine aGho_of ⟨rfl, rfl⟩ ?_
  intro p σ ρ hH hX hA hM
  have hG := aAG_of hA.1 (fun i e v he hv => (hA.2 i e v he hv).1)
  clear hA
  obtain ⟨v0, v1, v2, v3, v4, v5, rfl, g0, g1, g2, g3, g4, g5⟩ := fA_6 hG
  clear hG
  obtain ⟨x0, rfl, b0, d0⟩ := fG_ref (by decide) g0
  obtain ⟨x1, rfl, b1, d1⟩ := aG_int g1
  dsimp only at b1 d1
  obtain ⟨x2, rfl, b2, d2⟩ := aG_int g2
  dsimp only at b2 d2
  obtain ⟨x3, rfl, b3, d3⟩ := aG_int g3
  dsimp only at b3 d3
  obtain ⟨x4, rfl, b4, d4⟩ := aG_int g4
  dsimp only at b4 d4
  obtain ⟨x5, rfl, b5, d5⟩ := aG_int g5
  dsimp only at b5 d5
  obtain ⟨m1, m2, m3, m4⟩ := hM
  have l0 : 0 ≤ (1 * x5.toInt + (-1 * x2.toInt + 0)) + -1 := by
    obtain ⟨z, e6, e7⟩ := m3 ([(5, 1), (2, -1)], -1) (List.mem_of_getElem? (i := 0) rfl)
    obtain rfl : (1 * x5.toInt + (-1 * x2.toInt + 0)) = z := Option.some.inj (show some (1 * x5.toInt + (-1 * x2.toInt + 0)) = some z from e6)
    exact e7
  have l1 : 0 ≤ (-1 * x5.toInt + (1 * x2.toInt + 0)) + 1 := by
    obtain ⟨z, e6, e7⟩ := m3 ([(5, -1), (2, 1)], 1) (List.mem_of_getElem? (i := 1) rfl)
    obtain rfl : (-1 * x5.toInt + (1 * x2.toInt + 0)) = z := Option.some.inj (show some (-1 * x5.toInt + (1 * x2.toInt + 0)) = some z from e6)
    exact e7
  have f0 : fB K n p 92 [fR x0, fI x1, fI x2, fI x3, fI x4] σ := by
    obtain ⟨w, e6, e7⟩ := m4 (1477, [0, 1, 2, 3, 4]) (List.mem_of_getElem? (i := 0) rfl)
    obtain rfl : [fR x0, fI x1, fI x2, fI x3, fI x4] = w := Option.some.inj (show some [fR x0, fI x1, fI x2, fI x3, fI x4] = some w from e6)
    exact (fF_b (r := 1477) (by decide) rfl).mp e7
  have f1 : fB K n p 36 [fI x3] σ := by
    obtain ⟨w, e6, e7⟩ := m4 (577, [3]) (List.mem_of_getElem? (i := 1) rfl)
    obtain rfl : [fI x3] = w := Option.some.inj (show some [fI x3] = some w from e6)
    exact (fF_b (r := 577) (by decide) rfl).mp e7
  clear m1 m2 m3 m4
  obtain ⟨a9_0, lo9_0, hi9_0, r9_0, S0, C0, e9_0, T0, V0⟩ := (fL_o (by decide) (by decide)).mp f0
  cases e9_0
  obtain ⟨y0_0, y0_1, e8_0, eS0, eC0⟩ := T0
  cases e8_0
  subst eS0
  subst eC0
  obtain ⟨y1_0, e9_1, h1⟩ := f1
  cases e9_1
  have hmk : ((fq p).1 x3.toInt.toNat).toInt % 8 = 6 := by
    unfold fOw at h1
    rw [fNc] at h1
    rw [h1]
    omega
  have q0 : fB K n (p) 82 [fR x0, fI x1, fI x5, fI x3, fI x4] σ := by
    refine (fL_o (by decide) (by decide)).mpr ⟨x0, x1, x5, _, _, _, rfl, (Or.inl ⟨x3, x4, rfl, rfl, rfl⟩), ?_⟩
    exact fCv_w V0 ((show _ = x1.toInt from rfl).trans (show x1.toInt = _ from rfl)) (by have e1 : fEc 92 = 1 := rfl; have e2 : fEc 82 = 0 := rfl; omega) (fun x h => Or.inr (Or.inr (Or.inl ⟨hmk, h⟩))) (by
      intro y hy
      unfold fGn at hy
      rw [hmk] at hy
      rcases hy with hy | hy | ⟨-, hy⟩ | hy
      · omega
      · omega
      · exact hy
      · omega)
  exact ⟨p, fun _ => rfl, ⟨(fun q h => by cases h), fun q h => (by cases h), (fun f h => by cases h), (aAllc ⟨_, rfl, (fF_b (r := 1317) (by decide) rfl).mpr q0⟩ (fun f h => by cases h))⟩, [], List.mem_cons_self, fun f h => (by cases h)⟩
set_option maxRecDepth 8192 in
theorem rw_ruGC0EN {K : Nat → Nat} {n : Nat} : aGho (fF K n) fa_T K n (fJX K n) ag_ruGC0EN := by
  refine aGho_of ⟨rfl, rfl⟩ ?_
  intro p σ ρ hH hX hA hM
  have hG := aAG_of hA.1 (fun i e v he hv => (hA.2 i e v he hv).1)
  clear hA
  obtain ⟨v0, v1, v2, v3, v4, rfl, g0, g1, g2, g3, g4⟩ := fA_5 hG
  clear hG
  obtain ⟨x0, rfl, b0, d0⟩ := fG_ref (by decide) g0
  obtain ⟨x1, rfl, b1, d1⟩ := aG_int g1
  dsimp only at b1 d1
  obtain ⟨x2, rfl, b2, d2⟩ := aG_int g2
  dsimp only at b2 d2
  obtain ⟨x3, rfl, b3, d3⟩ := aG_int g3
  dsimp only at b3 d3
  obtain ⟨x4, rfl, b4, d4⟩ := aG_int g4
  dsimp only at b4 d4
  obtain ⟨m1, m2, m3, m4⟩ := hM
  have f0 : fB K n p 89 [fR x0, fI x1, fI x2, fI x3, fI x4] σ := by
    obtain ⟨w, e6, e7⟩ := m4 (1429, [0, 1, 2, 3, 4]) (List.mem_of_getElem? (i := 0) rfl)
    obtain rfl : [fR x0, fI x1, fI x2, fI x3, fI x4] = w := Option.some.inj (show some [fR x0, fI x1, fI x2, fI x3, fI x4] = some w from e6)
    exact (fF_b (r := 1429) (by decide) rfl).mp e7
  have f1 : fB K n p 52 [fI x3] σ := by
    obtain ⟨w, e6, e7⟩ := m4 (833, [3]) (List.mem_of_getElem? (i := 1) rfl)
    obtain rfl : [fI x3] = w := Option.some.inj (show some [fI x3] = some w from e6)
    exact (fF_b (r := 833) (by decide) rfl).mp e7
  clear m1 m2 m3 m4
  obtain ⟨a9_0, lo9_0, hi9_0, r9_0, S0, C0, e9_0, T0, V0⟩ := (fL_o (by decide) (by decide)).mp f0
  cases e9_0
  obtain ⟨y0_0, y0_1, e8_0, eS0, eC0⟩ := T0
  cases e8_0
  subst eS0
  subst eC0
  obtain ⟨y1_0, e8_1, h1⟩ := (fE_o (by decide)).mp f1
  cases e8_1
  have q0 : fB K n (p) 91 [fR x0, fI x1, fI x2, fI x3, fI x4] σ := by
    refine (fL_o (by decide) (by decide)).mpr ⟨x0, x1, x2, _, _, _, rfl, ⟨x3, x4, rfl, rfl, rfl⟩, ?_⟩
    exact fCv_w V0 ((show _ = x1.toInt from rfl).trans (show x1.toInt = _ from rfl)) (by have e1 : fEc 89 = 0 := rfl; have e2 : fEc 91 = 0 := rfl; omega) (fun x h => h) (by
      rintro y (hy | ⟨-, hc, hy⟩ | h)
      · exact Or.inl hy
      · exact absurd hc.2.2.1 h1
      · exact h.1.elim)
  exact ⟨p, fun _ => rfl, ⟨(fun q h => by cases h), fun q h => (by cases h), (fun f h => by cases h), (aAllc ⟨_, rfl, (fF_b (r := 1461) (by decide) rfl).mpr q0⟩ (fun f h => by cases h))⟩, [], List.mem_cons_self, fun f h => (by cases h)⟩
set_option maxRecDepth 8192 in
theorem rw_ruGC1EN {K : Nat → Nat} {n : Nat} : aGho (fF K n) fa_T K n (fJX K n) ag_ruGC1EN := by
  refine aGho_of ⟨rfl, rfl⟩ ?_
  intro p σ ρ hH hX hA hM
  have hG := aAG_of hA.1 (fun i e v he hv => (hA.2 i e v he hv).1)
  clear hA
  obtain ⟨v0, v1, v2, v3, v4, v5, rfl, g0, g1, g2, g3, g4, g5⟩ := fA_6 hG
  clear hG
  obtain ⟨x0, rfl, b0, d0⟩ := fG_ref (by decide) g0
  obtain ⟨x1, rfl, b1, d1⟩ := aG_int g1
  dsimp only at b1 d1
  obtain ⟨x2, rfl, b2, d2⟩ := aG_int g2
  dsimp only at b2 d2
  obtain ⟨x3, rfl, b3, d3⟩ := aG_int g3
  dsimp only at b3 d3
  obtain ⟨x4, rfl, b4, d4⟩ := aG_int g4
  dsimp only at b4 d4
  obtain ⟨x5, rfl, b5, d5⟩ := aG_int g5
  dsimp only at b5 d5
  obtain ⟨m1, m2, m3, m4⟩ := hM
  have f0 : fB K n p 89 [fR x0, fI x1, fI x2, fI x3, fI x4] σ := by
    obtain ⟨w, e6, e7⟩ := m4 (1429, [0, 1, 2, 3, 4]) (List.mem_of_getElem? (i := 0) rfl)
    obtain rfl : [fR x0, fI x1, fI x2, fI x3, fI x4] = w := Option.some.inj (show some [fR x0, fI x1, fI x2, fI x3, fI x4] = some w from e6)
    exact (fF_b (r := 1429) (by decide) rfl).mp e7
  have f1 : fB K n p 40 [fI x3, fI x5] σ := by
    obtain ⟨w, e6, e7⟩ := m4 (642, [3, 5]) (List.mem_of_getElem? (i := 1) rfl)
    obtain rfl : [fI x3, fI x5] = w := Option.some.inj (show some [fI x3, fI x5] = some w from e6)
    exact (fF_b (r := 642) (by decide) rfl).mp e7
  clear m1 m2 m3 m4
  obtain ⟨a9_0, lo9_0, hi9_0, r9_0, S0, C0, e9_0, T0, V0⟩ := (fL_o (by decide) (by decide)).mp f0
  cases e9_0
  obtain ⟨y0_0, y0_1, e8_0, eS0, eC0⟩ := T0
  cases e8_0
  subst eS0
  subst eC0
  obtain ⟨y1_0, y1_1, e9_1, h1⟩ := f1
  cases e9_1
  have q0 : fB K n (p) 91 [fR x0, fI x1, fI x2, fI x3, fI x4] σ := by
    refine (fL_o (by decide) (by decide)).mpr ⟨x0, x1, x2, _, _, _, rfl, ⟨x3, x4, rfl, rfl, rfl⟩, ?_⟩
    exact fCv_w V0 ((show _ = x1.toInt from rfl).trans (show x1.toInt = _ from rfl)) (by have e1 : fEc 89 = 0 := rfl; have e2 : fEc 91 = 0 := rfl; omega) (fun x h => h) (by
      rintro y (hy | ⟨-, hc, hy⟩ | h)
      · exact Or.inl hy
      · exact absurd hc.2.2.2.1 (by rw [h1]; omega)
      · exact h.1.elim)
  exact ⟨p, fun _ => rfl, ⟨(fun q h => by cases h), fun q h => (by cases h), (fun f h => by cases h), (aAllc ⟨_, rfl, (fF_b (r := 1461) (by decide) rfl).mpr q0⟩ (fun f h => by cases h))⟩, [], List.mem_cons_self, fun f h => (by cases h)⟩
set_option maxRecDepth 8192 in
theorem rw_ruGC2EN {K : Nat → Nat} {n : Nat} : aGho (fF K n) fa_T K n (fJX K n) ag_ruGC2EN := by
  refine aGho_of ⟨rfl, rfl⟩ ?_
  intro p σ ρ hH hX hA hM
  have hG := aAG_of hA.1 (fun i e v he hv => (hA.2 i e v he hv).1)
  clear hA
  obtain ⟨v0, v1, v2, v3, v4, v5, rfl, g0, g1, g2, g3, g4, g5⟩ := fA_6 hG
  clear hG
  obtain ⟨x0, rfl, b0, d0⟩ := fG_ref (by decide) g0
  obtain ⟨x1, rfl, b1, d1⟩ := aG_int g1
  dsimp only at b1 d1
  obtain ⟨x2, rfl, b2, d2⟩ := aG_int g2
  dsimp only at b2 d2
  obtain ⟨x3, rfl, b3, d3⟩ := aG_int g3
  dsimp only at b3 d3
  obtain ⟨x4, rfl, b4, d4⟩ := aG_int g4
  dsimp only at b4 d4
  obtain ⟨x5, rfl, b5, d5⟩ := aG_int g5
  dsimp only at b5 d5
  obtain ⟨m1, m2, m3, m4⟩ := hM
  have f0 : fB K n p 89 [fR x0, fI x1, fI x2, fI x3, fI x4] σ := by
    obtain ⟨w, e6, e7⟩ := m4 (1429, [0, 1, 2, 3, 4]) (List.mem_of_getElem? (i := 0) rfl)
    obtain rfl : [fR x0, fI x1, fI x2, fI x3, fI x4] = w := Option.some.inj (show some [fR x0, fI x1, fI x2, fI x3, fI x4] = some w from e6)
    exact (fF_b (r := 1429) (by decide) rfl).mp e7
  have f1 : fB K n p 41 [fI x3, fI x5] σ := by
    obtain ⟨w, e6, e7⟩ := m4 (658, [3, 5]) (List.mem_of_getElem? (i := 1) rfl)
    obtain rfl : [fI x3, fI x5] = w := Option.some.inj (show some [fI x3, fI x5] = some w from e6)
    exact (fF_b (r := 658) (by decide) rfl).mp e7
  clear m1 m2 m3 m4
  obtain ⟨a9_0, lo9_0, hi9_0, r9_0, S0, C0, e9_0, T0, V0⟩ := (fL_o (by decide) (by decide)).mp f0
  cases e9_0
  obtain ⟨y0_0, y0_1, e8_0, eS0, eC0⟩ := T0
  cases e8_0
  subst eS0
  subst eC0
  obtain ⟨y1_0, y1_1, e9_1, h1⟩ := f1
  cases e9_1
  have q0 : fB K n (p) 91 [fR x0, fI x1, fI x2, fI x3, fI x4] σ := by
    refine (fL_o (by decide) (by decide)).mpr ⟨x0, x1, x2, _, _, _, rfl, ⟨x3, x4, rfl, rfl, rfl⟩, ?_⟩
    exact fCv_w V0 ((show _ = x1.toInt from rfl).trans (show x1.toInt = _ from rfl)) (by have e1 : fEc 89 = 0 := rfl; have e2 : fEc 91 = 0 := rfl; omega) (fun x h => h) (by
      rintro y (hy | ⟨-, hc, hy⟩ | h)
      · exact Or.inl hy
      · exact absurd hc.2.2.2.2 (by rw [h1]; omega)
      · exact h.1.elim)
  exact ⟨p, fun _ => rfl, ⟨(fun q h => by cases h), fun q h => (by cases h), (fun f h => by cases h), (aAllc ⟨_, rfl, (fF_b (r := 1461) (by decide) rfl).mpr q0⟩ (fun f h => by cases h))⟩, [], List.mem_cons_self, fun f h => (by cases h)⟩
set_option maxRecDepth 8192 in
theorem rw_ruGD0EN {K : Nat → Nat} {n : Nat} : aGho (fF K n) fa_T K n (fJX K n) ag_ruGD0EN := by
  refine aGho_of ⟨rfl, rfl⟩ ?_
  intro p σ ρ hH hX hA hM
  have hG := aAG_of hA.1 (fun i e v he hv => (hA.2 i e v he hv).1)
  clear hA
  obtain ⟨v0, v1, v2, v3, v4, rfl, g0, g1, g2, g3, g4⟩ := fA_5 hG
  clear hG
  obtain ⟨x0, rfl, b0, d0⟩ := fG_ref (by decide) g0
  obtain ⟨x1, rfl, b1, d1⟩ := aG_int g1
  dsimp only at b1 d1
  obtain ⟨x2, rfl, b2, d2⟩ := aG_int g2
  dsimp only at b2 d2
  obtain ⟨x3, rfl, b3, d3⟩ := aG_int g3
  dsimp only at b3 d3
  obtain ⟨x4, rfl, b4, d4⟩ := aG_int g4
  dsimp only at b4 d4
  obtain ⟨m1, m2, m3, m4⟩ := hM
  have f0 : fB K n p 91 [fR x0, fI x1, fI x2, fI x3, fI x4] σ := by
    obtain ⟨w, e6, e7⟩ := m4 (1461, [0, 1, 2, 3, 4]) (List.mem_of_getElem? (i := 0) rfl)
    obtain rfl : [fR x0, fI x1, fI x2, fI x3, fI x4] = w := Option.some.inj (show some [fR x0, fI x1, fI x2, fI x3, fI x4] = some w from e6)
    exact (fF_b (r := 1461) (by decide) rfl).mp e7
  have f1 : fB K n p 54 [fI x3] σ := by
    obtain ⟨w, e6, e7⟩ := m4 (865, [3]) (List.mem_of_getElem? (i := 1) rfl)
    obtain rfl : [fI x3] = w := Option.some.inj (show some [fI x3] = some w from e6)
    exact (fF_b (r := 865) (by decide) rfl).mp e7
  have f2 : fB K n p 36 [fI x3] σ := by
    obtain ⟨w, e6, e7⟩ := m4 (577, [3]) (List.mem_of_getElem? (i := 2) rfl)
    obtain rfl : [fI x3] = w := Option.some.inj (show some [fI x3] = some w from e6)
    exact (fF_b (r := 577) (by decide) rfl).mp e7
  clear m1 m2 m3 m4
  obtain ⟨a9_0, lo9_0, hi9_0, r9_0, S0, C0, e9_0, T0, V0⟩ := (fL_o (by decide) (by decide)).mp f0
  cases e9_0
  obtain ⟨y0_0, y0_1, e8_0, eS0, eC0⟩ := T0
  cases e8_0
  subst eS0
  subst eC0
  obtain ⟨y1_0, e8_1, h1⟩ := (fE_o (by decide)).mp f1
  cases e8_1
  obtain ⟨y2_0, e9_2, h2⟩ := f2
  cases e9_2
  have hmk : ((fq p).1 x3.toInt.toNat).toInt % 8 = 6 := by
    unfold fOw at h2
    rw [fNc] at h2
    rw [h2]
    omega
  have q0 : fB K n (p) 82 [fR x0, fI x1, fI x2, fI x3, fI x4] σ := by
    refine (fL_o (by decide) (by decide)).mpr ⟨x0, x1, x2, _, _, _, rfl, (Or.inl ⟨x3, x4, rfl, rfl, rfl⟩), ?_⟩
    exact fCv_w V0 ((show _ = x1.toInt from rfl).trans (show x1.toInt = _ from rfl)) (by have e1 : fEc 91 = 0 := rfl; have e2 : fEc 82 = 0 := rfl; omega) (fun x h => Or.inr (Or.inr (Or.inl ⟨hmk, h⟩))) (by
      intro y hy
      unfold fGn at hy
      rw [hmk] at hy
      rcases hy with hy | hy | ⟨-, hy⟩ | hy
      · omega
      · omega
      · rcases hy with hy | hy | ⟨-, hc, hy⟩
        · exact Or.inl hy
        · exact Or.inr (Or.inl hy)
        · exact absurd hc.2.2.1 h1
      · omega)
  exact ⟨p, fun _ => rfl, ⟨(fun q h => by cases h), fun q h => (by cases h), (fun f h => by cases h), (aAllc ⟨_, rfl, (fF_b (r := 1317) (by decide) rfl).mpr q0⟩ (fun f h => by cases h))⟩, [], List.mem_cons_self, fun f h => (by cases h)⟩
set_option maxRecDepth 8192 in
theorem rw_ruGD1EN {K : Nat → Nat} {n : Nat} : aGho (fF K n) fa_T K n (fJX K n) ag_ruGD1EN := by
  refine aGho_of ⟨rfl, rfl⟩ ?_
  intro p σ ρ hH hX hA hM
  have hG := aAG_of hA.1 (fun i e v he hv => (hA.2 i e v he hv).1)
  clear hA
  obtain ⟨v0, v1, v2, v3, v4, v5, rfl, g0, g1, g2, g3, g4, g5⟩ := fA_6 hG
  clear hG
  obtain ⟨x0, rfl, b0, d0⟩ := fG_ref (by decide) g0
  obtain ⟨x1, rfl, b1, d1⟩ := aG_int g1
  dsimp only at b1 d1
  obtain ⟨x2, rfl, b2, d2⟩ := aG_int g2
  dsimp only at b2 d2
  obtain ⟨x3, rfl, b3, d3⟩ := aG_int g3
  dsimp only at b3 d3
  obtain ⟨x4, rfl, b4, d4⟩ := aG_int g4
  dsimp only at b4 d4
  obtain ⟨x5, rfl, b5, d5⟩ := aG_int g5
  dsimp only at b5 d5
  obtain ⟨m1, m2, m3, m4⟩ := hM
  have f0 : fB K n p 91 [fR x0, fI x1, fI x2, fI x3, fI x4] σ := by
    obtain ⟨w, e6, e7⟩ := m4 (1461, [0, 1, 2, 3, 4]) (List.mem_of_getElem? (i := 0) rfl)
    obtain rfl : [fR x0, fI x1, fI x2, fI x3, fI x4] = w := Option.some.inj (show some [fR x0, fI x1, fI x2, fI x3, fI x4] = some w from e6)
    exact (fF_b (r := 1461) (by decide) rfl).mp e7
  have f1 : fB K n p 42 [fI x3, fI x5] σ := by
    obtain ⟨w, e6, e7⟩ := m4 (674, [3, 5]) (List.mem_of_getElem? (i := 1) rfl)
    obtain rfl : [fI x3, fI x5] = w := Option.some.inj (show some [fI x3, fI x5] = some w from e6)
    exact (fF_b (r := 674) (by decide) rfl).mp e7
  have f2 : fB K n p 36 [fI x3] σ := by
    obtain ⟨w, e6, e7⟩ := m4 (577, [3]) (List.mem_of_getElem? (i := 2) rfl)
    obtain rfl : [fI x3] = w := Option.some.inj (show some [fI x3] = some w from e6)
    exact (fF_b (r := 577) (by decide) rfl).mp e7
  clear m1 m2 m3 m4
  obtain ⟨a9_0, lo9_0, hi9_0, r9_0, S0, C0, e9_0, T0, V0⟩ := (fL_o (by decide) (by decide)).mp f0
  cases e9_0
  obtain ⟨y0_0, y0_1, e8_0, eS0, eC0⟩ := T0
  cases e8_0
  subst eS0
  subst eC0
  obtain ⟨y1_0, y1_1, e9_1, h1⟩ := f1
  cases e9_1
  obtain ⟨y2_0, e9_2, h2⟩ := f2
  cases e9_2
  have hmk : ((fq p).1 x3.toInt.toNat).toInt % 8 = 6 := by
    unfold fOw at h2
    rw [fNc] at h2
    rw [h2]
    omega
  have q0 : fB K n (p) 82 [fR x0, fI x1, fI x2, fI x3, fI x4] σ := by
    refine (fL_o (by decide) (by decide)).mpr ⟨x0, x1, x2, _, _, _, rfl, (Or.inl ⟨x3, x4, rfl, rfl, rfl⟩), ?_⟩
    exact fCv_w V0 ((show _ = x1.toInt from rfl).trans (show x1.toInt = _ from rfl)) (by have e1 : fEc 91 = 0 := rfl; have e2 : fEc 82 = 0 := rfl; omega) (fun x h => Or.inr (Or.inr (Or.inl ⟨hmk, h⟩))) (by
      intro y hy
      unfold fGn at hy
      rw [hmk] at hy
      rcases hy with hy | hy | ⟨-, hy⟩ | hy
      · omega
      · omega
      · rcases hy with hy | hy | ⟨-, hc, hy⟩
        · exact Or.inl hy
        · exact Or.inr (Or.inl hy)
        · exact absurd hc.2.2.2.1 (by rw [h1]; omega)
      · omega)
  exact ⟨p, fun _ => rfl, ⟨(fun q h => by cases h), fun q h => (by cases h), (fun f h => by cases h), (aAllc ⟨_, rfl, (fF_b (r := 1317) (by decide) rfl).mpr q0⟩ (fun f h => by cases h))⟩, [], List.mem_cons_self, fun f h => (by cases h)⟩
set_option maxRecDepth 8192 in
theorem rw_ruGD2EN {K : Nat → Nat} {n : Nat} : aGho (fF K n) fa_T K n (fJX K n) ag_ruGD2EN := by
  refine aGho_of ⟨rfl, rfl⟩ ?_
  intro p σ ρ hH hX hA hM
  have hG := aAG_of hA.1 (fun i e v he hv => (hA.2 i e v he hv).1)
  clear hA
  obtain ⟨v0, v1, v2, v3, v4, v5, rfl, g0, g1, g2, g3, g4, g5⟩ := fA_6 hG
  clear hG
  obtain ⟨x0, rfl, b0, d0⟩ := fG_ref (by decide) g0
  obtain ⟨x1, rfl, b1, d1⟩ := aG_int g1
  dsimp only at b1 d1
  obtain ⟨x2, rfl, b2, d2⟩ := aG_int g2
  dsimp only at b2 d2
  obtain ⟨x3, rfl, b3, d3⟩ := aG_int g3
  dsimp only at b3 d3
  obtain ⟨x4, rfl, b4, d4⟩ := aG_int g4
  dsimp only at b4 d4
  obtain ⟨x5, rfl, b5, d5⟩ := aG_int g5
  dsimp only at b5 d5
  obtain ⟨m1, m2, m3, m4⟩ := hM
  have f0 : fB K n p 91 [fR x0, fI x1, fI x2, fI x3, fI x4] σ := by
    obtain ⟨w, e6, e7⟩ := m4 (1461, [0, 1, 2, 3, 4]) (List.mem_of_getElem? (i := 0) rfl)
    obtain rfl : [fR x0, fI x1, fI x2, fI x3, fI x4] = w := Option.some.inj (show some [fR x0, fI x1, fI x2, fI x3, fI x4] = some w from e6)
    exact (fF_b (r := 1461) (by decide) rfl).mp e7
  have f1 : fB K n p 43 [fI x3, fI x5] σ := by
    obtain ⟨w, e6, e7⟩ := m4 (690, [3, 5]) (List.mem_of_getElem? (i := 1) rfl)
    obtain rfl : [fI x3, fI x5] = w := Option.some.inj (show some [fI x3, fI x5] = some w from e6)
    exact (fF_b (r := 690) (by decide) rfl).mp e7
  have f2 : fB K n p 36 [fI x3] σ := by
    obtain ⟨w, e6, e7⟩ := m4 (577, [3]) (List.mem_of_getElem? (i := 2) rfl)
    obtain rfl : [fI x3] = w := Option.some.inj (show some [fI x3] = some w from e6)
    exact (fF_b (r := 577) (by decide) rfl).mp e7
  clear m1 m2 m3 m4
  obtain ⟨a9_0, lo9_0, hi9_0, r9_0, S0, C0, e9_0, T0, V0⟩ := (fL_o (by decide) (by decide)).mp f0
  cases e9_0
  obtain ⟨y0_0, y0_1, e8_0, eS0, eC0⟩ := T0
  cases e8_0
  subst eS0
  subst eC0
  obtain ⟨y1_0, y1_1, e9_1, h1⟩ := f1
  cases e9_1
  obtain ⟨y2_0, e9_2, h2⟩ := f2
  cases e9_2
  have hmk : ((fq p).1 x3.toInt.toNat).toInt % 8 = 6 := by
    unfold fOw at h2
    rw [fNc] at h2
    rw [h2]
    omega
  have q0 : fB K n (p) 82 [fR x0, fI x1, fI x2, fI x3, fI x4] σ := by
    refine (fL_o (by decide) (by decide)).mpr ⟨x0, x1, x2, _, _, _, rfl, (Or.inl ⟨x3, x4, rfl, rfl, rfl⟩), ?_⟩
    exact fCv_w V0 ((show _ = x1.toInt from rfl).trans (show x1.toInt = _ from rfl)) (by have e1 : fEc 91 = 0 := rfl; have e2 : fEc 82 = 0 := rfl; omega) (fun x h => Or.inr (Or.inr (Or.inl ⟨hmk, h⟩))) (by
      intro y hy
      unfold fGn at hy
      rw [hmk] at hy
      rcases hy with hy | hy | ⟨-, hy⟩ | hy
      · omega
      · omega
      · rcases hy with hy | hy | ⟨-, hc, hy⟩
        · exact Or.inl hy
        · exact Or.inr (Or.inl hy)
        · exact absurd hc.2.2.2.2.1 (by rw [h1]; omega)
      · omega)
  exact ⟨p, fun _ => rfl, ⟨(fun q h => by cases h), fun q h => (by cases h), (fun f h => by cases h), (aAllc ⟨_, rfl, (fF_b (r := 1317) (by decide) rfl).mpr q0⟩ (fun f h => by cases h))⟩, [], List.mem_cons_self, fun f h => (by cases h)⟩
set_option maxRecDepth 8192 in
theorem rw_ruGD3EN {K : Nat → Nat} {n : Nat} : aGho (fF K n) fa_T K n (fJX K n) ag_ruGD3EN := by
  refine aGho_of ⟨rfl, rfl⟩ ?_
  intro p σ ρ hH hX hA hM
  have hG := aAG_of hA.1 (fun i e v he hv => (hA.2 i e v he hv).1)
  clear hA
  obtain ⟨v0, v1, v2, v3, v4, v5, rfl, g0, g1, g2, g3, g4, g5⟩ := fA_6 hG
  clear hG
  obtain ⟨x0, rfl, b0, d0⟩ := fG_ref (by decide) g0
  obtain ⟨x1, rfl, b1, d1⟩ := aG_int g1
  dsimp only at b1 d1
  obtain ⟨x2, rfl, b2, d2⟩ := aG_int g2
  dsimp only at b2 d2
  obtain ⟨x3, rfl, b3, d3⟩ := aG_int g3
  dsimp only at b3 d3
  obtain ⟨x4, rfl, b4, d4⟩ := aG_int g4
  dsimp only at b4 d4
  obtain ⟨x5, rfl, b5, d5⟩ := aG_int g5
  dsimp only at b5 d5
  obtain ⟨m1, m2, m3, m4⟩ := hM
  have f0 : fB K n p 91 [fR x0, fI x1, fI x2, fI x3, fI x4] σ := by
    obtain ⟨w, e6, e7⟩ := m4 (1461, [0, 1, 2, 3, 4]) (List.mem_of_getElem? (i := 0) rfl)
    obtain rfl : [fR x0, fI x1, fI x2, fI x3, fI x4] = w := Option.some.inj (show some [fR x0, fI x1, fI x2, fI x3, fI x4] = some w from e6)
    exact (fF_b (r := 1461) (by decide) rfl).mp e7
  have f1 : fB K n p 55 [fI x3, fI x5] σ := by
    obtain ⟨w, e6, e7⟩ := m4 (882, [3, 5]) (List.mem_of_getElem? (i := 1) rfl)
    obtain rfl : [fI x3, fI x5] = w := Option.some.inj (show some [fI x3, fI x5] = some w from e6)
    exact (fF_b (r := 882) (by decide) rfl).mp e7
  have f2 : fB K n p 36 [fI x3] σ := by
    obtain ⟨w, e6, e7⟩ := m4 (577, [3]) (List.mem_of_getElem? (i := 2) rfl)
    obtain rfl : [fI x3] = w := Option.some.inj (show some [fI x3] = some w from e6)
    exact (fF_b (r := 577) (by decide) rfl).mp e7
  clear m1 m2 m3 m4
  obtain ⟨a9_0, lo9_0, hi9_0, r9_0, S0, C0, e9_0, T0, V0⟩ := (fL_o (by decide) (by decide)).mp f0
  cases e9_0
  obtain ⟨y0_0, y0_1, e8_0, eS0, eC0⟩ := T0
  cases e8_0
  subst eS0
  subst eC0
  obtain ⟨y1_0, y1_1, e8_1, h1⟩ := (fE_o (by decide)).mp f1
  cases e8_1
  obtain ⟨y2_0, e9_2, h2⟩ := f2
  cases e9_2
  have hmk : ((fq p).1 x3.toInt.toNat).toInt % 8 = 6 := by
    unfold fOw at h2
    rw [fNc] at h2
    rw [h2]
    omega
  have q0 : fB K n (p) 82 [fR x0, fI x1, fI x2, fI x3, fI x4] σ := by
    refine (fL_o (by decide) (by decide)).mpr ⟨x0, x1, x2, _, _, _, rfl, (Or.inl ⟨x3, x4, rfl, rfl, rfl⟩), ?_⟩
    exact fCv_w V0 ((show _ = x1.toInt from rfl).trans (show x1.toInt = _ from rfl)) (by have e1 : fEc 91 = 0 := rfl; have e2 : fEc 82 = 0 := rfl; omega) (fun x h => Or.inr (Or.inr (Or.inl ⟨hmk, h⟩))) (by
      intro y hy
      unfold fGn at hy
      rw [hmk] at hy
      rcases hy with hy | hy | ⟨-, hy⟩ | hy
      · omega
      · omega
      · rcases hy with hy | hy | ⟨-, hc, hy⟩
        · exact Or.inl hy
        · exact Or.inr (Or.inl hy)
        · exact absurd hc.2.2.2.2.2 (by rw [h1]; omega)
      · omega)
  exact ⟨p, fun _ => rfl, ⟨(fun q h => by cases h), fun q h => (by cases h), (fun f h => by cases h), (aAllc ⟨_, rfl, (fF_b (r := 1317) (by decide) rfl).mpr q0⟩ (fun f h => by cases h))⟩, [], List.mem_cons_self, fun f h => (by cases h)⟩
set_option maxRecDepth 8192 in
theorem rw_ruGQ9EN {K : Nat → Nat} {n : Nat} : aGho (fF K n) fa_T K n (fJX K n) ag_ruGQ9EN := by
  refine aGho_of ⟨rfl, rfl⟩ ?_
  intro p σ ρ hH hX hA hM
  have hG := aAG_of hA.1 (fun i e v he hv => (hA.2 i e v he hv).1)
  clear hA
  obtain ⟨v0, v1, v2, v3, v4, v5, rfl, g0, g1, g2, g3, g4, g5⟩ := fA_6 hG
  clear hG
  obtain ⟨x0, rfl, b0, d0⟩ := fG_ref (by decide) g0
  obtain ⟨x1, rfl, b1, d1⟩ := aG_int g1
  dsimp only at b1 d1
  obtain ⟨x2, rfl, b2, d2⟩ := aG_int g2
  dsimp only at b2 d2
  obtain ⟨x3, rfl, b3, d3⟩ := aG_int g3
  dsimp only at b3 d3
  obtain ⟨x4, rfl, b4, d4⟩ := fG_ref (by decide) g4
  obtain ⟨x5, rfl, b5, d5⟩ := aG_int g5
  dsimp only at b5 d5
  obtain ⟨m1, m2, m3, m4⟩ := hM
  obtain ⟨a0, c0, fs0, w0, e1, s0, t0, e4⟩ := m1 (4, 2, 5) (List.mem_of_getElem? (i := 0) rfl)
  obtain rfl : x4 = a0 := Sum.inl.inj (Option.some.inj (Sum.inr.inj (Sum.inr.inj (Option.some.inj (show some (fR x4) = some _ from e1)))))
  obtain rfl : fI x5 = w0 := Option.some.inj (show some (fI x5) = some w0 from e4)
  clear e1 e4
  have l0 : 0 ≤ (1 * x3.toInt + (-1 * x2.toInt + (16 * x5.toInt + 0))) + -8 := by
    obtain ⟨z, e6, e7⟩ := m3 ([(3, 1), (2, -1), (5, 16)], -8) (List.mem_of_getElem? (i := 0) rfl)
    obtain rfl : (1 * x3.toInt + (-1 * x2.toInt + (16 * x5.toInt + 0))) = z := Option.some.inj (show some (1 * x3.toInt + (-1 * x2.toInt + (16 * x5.toInt + 0))) = some z from e6)
    exact e7
  have l1 : 0 ≤ (-1 * x3.toInt + (1 * x2.toInt + (-16 * x5.toInt + 0))) + 8 := by
    obtain ⟨z, e6, e7⟩ := m3 ([(3, -1), (2, 1), (5, -16)], 8) (List.mem_of_getElem? (i := 1) rfl)
    obtain rfl : (-1 * x3.toInt + (1 * x2.toInt + (-16 * x5.toInt + 0))) = z := Option.some.inj (show some (-1 * x3.toInt + (1 * x2.toInt + (-16 * x5.toInt + 0))) = some z from e6)
    exact e7
  have f0 : fB K n p 1 [fR x4] σ := by
    obtain ⟨w, e6, e7⟩ := m4 (17, [4]) (List.mem_of_getElem? (i := 0) rfl)
    obtain rfl : [fR x4] = w := Option.some.inj (show some [fR x4] = some w from e6)
    exact (fF_b (r := 17) (by decide) rfl).mp e7
  have f1 : fB K n p 34 [fI x2] σ := by
    obtain ⟨w, e6, e7⟩ := m4 (545, [2]) (List.mem_of_getElem? (i := 1) rfl)
    obtain rfl : [fI x2] = w := Option.some.inj (show some [fI x2] = some w from e6)
    exact (fF_b (r := 545) (by decide) rfl).mp e7
  clear m1 m2 m3 m4
  obtain ⟨a9_0, e9_0, h0, g0⟩ := f0
  cases e9_0
  obtain ⟨y1_0, e9_1, h1⟩ := f1
  cases e9_1
  have hmk : ((fq p).1 x2.toInt.toNat).toInt % 8 = 1 := by
    unfold fOw at h1
    rw [fNc] at h1
    rw [h1]
    omega
  have hF := fAt_of h0 s0
  have hsd := hF.2.1 x5 t0
  have q0 : fB K n (p) 81 [fR x0, fI x1, fI x1, fI x2] σ := by
    obtain ⟨g, hg9⟩ := fRow hH b0 d0 rfl (by decide)
    refine (fL_o (by decide) (by decide)).mpr ⟨x0, x1, x1, _, _, _, rfl, (Or.inl ⟨x2, rfl, rfl, rfl⟩), ?_⟩
    exact fCv_0 b0 (by unfold fRw; omega) hg9 (by have e1 : fEc 81 = 0 := rfl; show x1.toInt + fEc 81 ≤ x1.toInt; omega) (by
      intro y hy
      unfold fGn at hy
      rw [hmk] at hy
      rcases hy with ⟨-, hy, -⟩ | hy | hy | hy
      · unfold fOne at hy
        rw [← hsd] at hy
        omega
      · omega
      · omega
      · omega)
  exact ⟨p, fun _ => rfl, ⟨(fun q h => by cases h), fun q h => (by cases h), (fun f h => by cases h), (aAllc ⟨_, rfl, (fF_b (r := 1300) (by decide) rfl).mpr q0⟩ (fun f h => by cases h))⟩, [], List.mem_cons_self, fun f h => (by cases h)⟩
set_option maxRecDepth 8192 in
theorem rw_ruGQ8EN {K : Nat → Nat} {n : Nat} : aGho (fF K n) fa_T K n (fJX K n) ag_ruGQ8EN := by
  refine aGho_of ⟨rfl, rfl⟩ ?_
  intro p σ ρ hH hX hA hM
  have hG := aAG_of hA.1 (fun i e v he hv => (hA.2 i e v he hv).1)
  clear hA
  obtain ⟨v0, v1, v2, v3, v4, v5, rfl, g0, g1, g2, g3, g4, g5⟩ := fA_6 hG
  clear hG
  obtain ⟨x0, rfl, b0, d0⟩ := fG_ref (by decide) g0
  obtain ⟨x1, rfl, b1, d1⟩ := aG_int g1
  dsimp only at b1 d1
  obtain ⟨x2, rfl, b2, d2⟩ := aG_int g2
  dsimp only at b2 d2
  obtain ⟨x3, rfl, b3, d3⟩ := aG_int g3
  dsimp only at b3 d3
  obtain ⟨x4, rfl, b4, d4⟩ := fG_ref (by decide) g4
  obtain ⟨x5, rfl, b5, d5⟩ := aG_int g5
  dsimp only at b5 d5
  obtain ⟨m1, m2, m3, m4⟩ := hM
  obtain ⟨a0, c0, fs0, w0, e1, s0, t0, e4⟩ := m1 (4, 2, 5) (List.mem_of_getElem? (i := 0) rfl)
  obtain rfl : x4 = a0 := Sum.inl.inj (Option.some.inj (Sum.inr.inj (Sum.inr.inj (Option.some.inj (show some (fR x4) = some _ from e1)))))
  obtain rfl : fI x5 = w0 := Option.some.inj (show some (fI x5) = some w0 from e4)
  clear e1 e4
  have l0 : 0 ≤ (1 * x3.toInt + (-1 * x2.toInt + (16 * x5.toInt + 0))) + -8 := by
    obtain ⟨z, e6, e7⟩ := m3 ([(3, 1), (2, -1), (5, 16)], -8) (List.mem_of_getElem? (i := 0) rfl)
    obtain rfl : (1 * x3.toInt + (-1 * x2.toInt + (16 * x5.toInt + 0))) = z := Option.some.inj (show some (1 * x3.toInt + (-1 * x2.toInt + (16 * x5.toInt + 0))) = some z from e6)
    exact e7
  have l1 : 0 ≤ (-1 * x3.toInt + (1 * x2.toInt + (-16 * x5.toInt + 0))) + 8 := by
    obtain ⟨z, e6, e7⟩ := m3 ([(3, -1), (2, 1), (5, -16)], 8) (List.mem_of_getElem? (i := 1) rfl)
    obtain rfl : (-1 * x3.toInt + (1 * x2.toInt + (-16 * x5.toInt + 0))) = z := Option.some.inj (show some (-1 * x3.toInt + (1 * x2.toInt + (-16 * x5.toInt + 0))) = some z from e6)
    exact e7
  have f0 : fB K n p 1 [fR x4] σ := by
    obtain ⟨w, e6, e7⟩ := m4 (17, [4]) (List.mem_of_getElem? (i := 0) rfl)
    obtain rfl : [fR x4] = w := Option.some.inj (show some [fR x4] = some w from e6)
    exact (fF_b (r := 17) (by decide) rfl).mp e7
  have f1 : fB K n p 34 [fI x2] σ := by
    obtain ⟨w, e6, e7⟩ := m4 (545, [2]) (List.mem_of_getElem? (i := 1) rfl)
    obtain rfl : [fI x2] = w := Option.some.inj (show some [fI x2] = some w from e6)
    exact (fF_b (r := 545) (by decide) rfl).mp e7
  clear m1 m2 m3 m4
  obtain ⟨a9_0, e9_0, h0, g0⟩ := f0
  cases e9_0
  obtain ⟨y1_0, e9_1, h1⟩ := f1
  cases e9_1
  have hmk : ((fq p).1 x2.toInt.toNat).toInt % 8 = 1 := by
    unfold fOw at h1
    rw [fNc] at h1
    rw [h1]
    omega
  have hF := fAt_of h0 s0
  have hsd := hF.2.1 x5 t0
  have q0 : fB K n (p) 81 [fR x0, fI x1, fI x1, fI x2] σ := by
    obtain ⟨g, hg9⟩ := fRow hH b0 d0 rfl (by decide)
    refine (fL_o (by decide) (by decide)).mpr ⟨x0, x1, x1, _, _, _, rfl, (Or.inl ⟨x2, rfl, rfl, rfl⟩), ?_⟩
    exact fCv_0 b0 (by unfold fRw; omega) hg9 (by have e1 : fEc 81 = 0 := rfl; show x1.toInt + fEc 81 ≤ x1.toInt; omega) (by
      intro y hy
      unfold fGn at hy
      rw [hmk] at hy
      rcases hy with ⟨-, hy, -⟩ | hy | hy | hy
      · unfold fOne at hy
        rw [← hsd] at hy
        omega
      · omega
      · omega
      · omega)
  exact ⟨p, fun _ => rfl, ⟨(fun q h => by cases h), fun q h => (by cases h), (fun f h => by cases h), (aAllc ⟨_, rfl, (fF_b (r := 1300) (by decide) rfl).mpr q0⟩ (fun f h => by cases h))⟩, [], List.mem_cons_self, fun f h => (by cases h)⟩
set_option maxRecDepth 8192 in
theorem rw_ruGQ0EN {K : Nat → Nat} {n : Nat} : aGho (fF K n) fa_T K n (fJX K n) ag_ruGQ0EN := by
  refine aGho_of ⟨rfl, rfl⟩ ?_
  intro p σ ρ hH hX hA hM
  have hG := aAG_of hA.1 (fun i e v he hv => (hA.2 i e v he hv).1)
  clear hA
  obtain ⟨v0, v1, v2, v3, v4, rfl, g0, g1, g2, g3, g4⟩ := fA_5 hG
  clear hG
  obtain ⟨x0, rfl, b0, d0⟩ := fG_ref (by decide) g0
  obtain ⟨x1, rfl, b1, d1⟩ := aG_int g1
  dsimp only at b1 d1
  obtain ⟨x2, rfl, b2, d2⟩ := aG_int g2
  dsimp only at b2 d2
  obtain ⟨x3, rfl, b3, d3⟩ := aG_int g3
  dsimp only at b3 d3
  obtain ⟨x4, rfl, b4, d4⟩ := aG_int g4
  dsimp only at b4 d4
  obtain ⟨m1, m2, m3, m4⟩ := hM
  have l0 : 0 ≤ (1 * x4.toInt + (-1 * x3.toInt + 0)) + -1 := by
    obtain ⟨z, e6, e7⟩ := m3 ([(4, 1), (3, -1)], -1) (List.mem_of_getElem? (i := 0) rfl)
    obtain rfl : (1 * x4.toInt + (-1 * x3.toInt + 0)) = z := Option.some.inj (show some (1 * x4.toInt + (-1 * x3.toInt + 0)) = some z from e6)
    exact e7
  have l1 : 0 ≤ (-1 * x4.toInt + (1 * x3.toInt + 0)) + 1 := by
    obtain ⟨z, e6, e7⟩ := m3 ([(4, -1), (3, 1)], 1) (List.mem_of_getElem? (i := 1) rfl)
    obtain rfl : (-1 * x4.toInt + (1 * x3.toInt + 0)) = z := Option.some.inj (show some (-1 * x4.toInt + (1 * x3.toInt + 0)) = some z from e6)
    exact e7
  have f0 : fB K n p 59 [fI x2, fI x4] σ := by
    obtain ⟨w, e6, e7⟩ := m4 (946, [2, 4]) (List.mem_of_getElem? (i := 0) rfl)
    obtain rfl : [fI x2, fI x4] = w := Option.some.inj (show some [fI x2, fI x4] = some w from e6)
    exact (fF_b (r := 946) (by decide) rfl).mp e7
  clear m1 m2 m3 m4
  obtain ⟨y0_0, y0_1, e8_0, h0⟩ := fOr_l ((fE_o (by decide)).mp f0) (by rintro ⟨_, _, e9, -⟩; cases e9)
  cases e8_0
  have eo : fOne (fq p).2 x2.toInt = x4.toInt := h0.symm
  have q0 : fB K n (p) 93 [fR x0, fI x1, fI x1, fI x2, fI x3] σ := by
    obtain ⟨g, hg9⟩ := fRow hH b0 d0 rfl (by decide)
    refine (fL_o (by decide) (by decide)).mpr ⟨x0, x1, x1, _, _, _, rfl, ⟨x2, x3, rfl, rfl, rfl, by omega, by omega⟩, ?_⟩
    exact fCv_0 b0 (by unfold fRw; omega) hg9 (by have e1 : fEc 93 = 0 := rfl; show x1.toInt + fEc 93 ≤ x1.toInt; omega) (by
      rintro y ⟨-, ⟨u, b, u1, u2, u3, u4, u5, hp, -⟩ | h⟩
      · omega
      · exact h.1)
  exact ⟨p, fun _ => rfl, ⟨(fun q h => by cases h), fun q h => (by cases h), (fun f h => by cases h), (aAllc ⟨_, rfl, (fF_b (r := 1493) (by decide) rfl).mpr q0⟩ (fun f h => by cases h))⟩, [], List.mem_cons_self, fun f h => (by cases h)⟩
set_option maxRecDepth 8192 in
theorem rw_ruGQmEN {K : Nat → Nat} {n : Nat} : aGho (fF K n) fa_T K n (fJX K n) ag_ruGQmEN := by
  refine aGho_of ⟨rfl, rfl⟩ ?_
  intro p σ ρ hH hX hA hM
  have hG := aAG_of hA.1 (fun i e v he hv => (hA.2 i e v he hv).1)
  clear hA
  obtain ⟨v0, v1, v2, v3, v4, v5, v6, v7, rfl, g0, g1, g2, g3, g4, g5, g6, g7⟩ := fA_8 hG
  clear hG
  obtain ⟨x0, rfl, b0, d0⟩ := fG_ref (by decide) g0
  obtain ⟨x1, rfl, b1, d1⟩ := aG_int g1
  dsimp only at b1 d1
  obtain ⟨x2, rfl, b2, d2⟩ := aG_int g2
  dsimp only at b2 d2
  obtain ⟨x3, rfl, b3, d3⟩ := aG_int g3
  dsimp only at b3 d3
  obtain ⟨x4, rfl, b4, d4⟩ := aG_int g4
  dsimp only at b4 d4
  obtain ⟨x5, rfl, b5, d5⟩ := aG_int g5
  dsimp only at b5 d5
  obtain ⟨x6, rfl, b6, d6⟩ := aG_int g6
  dsimp only at b6 d6
  obtain ⟨x7, rfl, b7, d7⟩ := aG_int g7
  dsimp only at b7 d7
  obtain ⟨m1, m2, m3, m4⟩ := hM
  have l0 : 0 ≤ (1 * x5.toInt + (-2 * x6.toInt + 0)) + 0 := by
    obtain ⟨z, e6, e7⟩ := m3 ([(5, 1), (6, -2)], 0) (List.mem_of_getElem? (i := 0) rfl)
    obtain rfl : (1 * x5.toInt + (-2 * x6.toInt + 0)) = z := Option.some.inj (show some (1 * x5.toInt + (-2 * x6.toInt + 0)) = some z from e6)
    exact e7
  have l1 : 0 ≤ (-1 * x5.toInt + (2 * x6.toInt + 0)) + 0 := by
    obtain ⟨z, e6, e7⟩ := m3 ([(5, -1), (6, 2)], 0) (List.mem_of_getElem? (i := 1) rfl)
    obtain rfl : (-1 * x5.toInt + (2 * x6.toInt + 0)) = z := Option.some.inj (show some (-1 * x5.toInt + (2 * x6.toInt + 0)) = some z from e6)
    exact e7
  have l2 : 0 ≤ (1 * x7.toInt + (-1 * x4.toInt + 0)) + 1 := by
    obtain ⟨z, e6, e7⟩ := m3 ([(7, 1), (4, -1)], 1) (List.mem_of_getElem? (i := 2) rfl)
    obtain rfl : (1 * x7.toInt + (-1 * x4.toInt + 0)) = z := Option.some.inj (show some (1 * x7.toInt + (-1 * x4.toInt + 0)) = some z from e6)
    exact e7
  have f0 : fB K n p 93 [fR x0, fI x1, fI x2, fI x3, fI x4] σ := by
    obtain ⟨w, e6, e7⟩ := m4 (1493, [0, 1, 2, 3, 4]) (List.mem_of_getElem? (i := 0) rfl)
    obtain rfl : [fR x0, fI x1, fI x2, fI x3, fI x4] = w := Option.some.inj (show some [fR x0, fI x1, fI x2, fI x3, fI x4] = some w from e6)
    exact (fF_b (r := 1493) (by decide) rfl).mp e7
  have f1 : fB K n p 56 [fI x3, fI x4] σ := by
    obtain ⟨w, e6, e7⟩ := m4 (898, [3, 4]) (List.mem_of_getElem? (i := 1) rfl)
    obtain rfl : [fI x3, fI x4] = w := Option.some.inj (show some [fI x3, fI x4] = some w from e6)
    exact (fF_b (r := 898) (by decide) rfl).mp e7
  have f2 : fB K n p 58 [fI x3, fI x6] σ := by
    obtain ⟨w, e6, e7⟩ := m4 (930, [3, 6]) (List.mem_of_getElem? (i := 2) rfl)
    obtain rfl : [fI x3, fI x6] = w := Option.some.inj (show some [fI x3, fI x6] = some w from e6)
    exact (fF_b (r := 930) (by decide) rfl).mp e7
  have f3 : fB K n p 59 [fI x3, fI x7] σ := by
    obtain ⟨w, e6, e7⟩ := m4 (946, [3, 7]) (List.mem_of_getElem? (i := 3) rfl)
    obtain rfl : [fI x3, fI x7] = w := Option.some.inj (show some [fI x3, fI x7] = some w from e6)
    exact (fF_b (r := 946) (by decide) rfl).mp e7
  clear m1 m2 m3 m4
  obtain ⟨a9_0, lo9_0, hi9_0, r9_0, S0, C0, e9_0, T0, V0⟩ := (fL_o (by decide) (by decide)).mp f0
  cases e9_0
  obtain ⟨y0_0, y0_1, e8_0, eS0, eC0, o0, z0⟩ := T0
  cases e8_0
  subst eS0
  subst eC0
  obtain ⟨y1_0, y1_1, e8_1, h1⟩ := fOr_l ((fE_o (by decide)).mp f1) (by rintro ⟨_, _, _, _, _, _, e9, -⟩; cases e9)
  cases e8_1
  obtain ⟨y2_0, y2_1, e8_2, h2⟩ := fOr_l ((fE_o (by decide)).mp f2) (by rintro ⟨_, e9, -⟩; cases e9)
  cases e8_2
  obtain ⟨y3_0, y3_1, e8_3, h3⟩ := fOr_l ((fE_o (by decide)).mp f3) (by rintro ⟨_, _, e9, -⟩; cases e9)
  cases e8_3
  have eo : fOne (fq p).2 x3.toInt = x7.toInt := h3.symm
  have q0 : fB K n (p) 94 [fR x0, fI x1, fI x2, fI x3, fI x4, fI x5] σ := by
    refine (fL_o (by decide) (by decide)).mpr ⟨x0, x1, x2, _, _, _, rfl, ⟨x3, x4, x5, rfl, rfl, rfl, h1, o0, z0, by omega⟩, ?_⟩
    exact fCv_w V0 ((show _ = x1.toInt from rfl).trans (show x1.toInt = _ from rfl)) (by have e1 : fEc 93 = 0 := rfl; have e2 : fEc 94 = 0 := rfl; omega) (fun x h => h) (by
      rintro y ⟨y1, ⟨u, b, u1, u2, u3, u4, u5, hp, hy⟩ | h⟩
      · refine ⟨y1, Or.inl ⟨u, b, u1, u2, u3, u4, u5, ?_, hy⟩⟩
        rcases h2 with ⟨q1, q2⟩ | ⟨q1, q2⟩
        · have := u4 q2
          omega
        · have := u5 q2
          omega
      · exact h.1.elim)
  exact ⟨p, fun _ => rfl, ⟨(fun q h => by cases h), fun q h => (by cases h), (fun f h => by cases h), (aAllc ⟨_, rfl, (fF_b (r := 1510) (by decide) rfl).mpr q0⟩ (fun f h => by cases h))⟩, [], List.mem_cons_self, fun f h => (by cases h)⟩
set_option maxRecDepth 8192 in
theorem rw_ruGQsEN {K : Nat → Nat} {n : Nat} : aGho (fF K n) fa_T K n (fJX K n) ag_ruGQsEN := by
  refine aGho_of ⟨rfl, rfl⟩ ?_
  intro p σ ρ hH hX hA hM
  have hG := aAG_of hA.1 (fun i e v he hv => (hA.2 i e v he hv).1)
  clear hA
  obtain ⟨v0, v1, v2, v3, v4, v5, v6, v7, rfl, g0, g1, g2, g3, g4, g5, g6, g7⟩ := fA_8 hG
  clear hG
  obtain ⟨x0, rfl, b0, d0⟩ := fG_ref (by decide) g0
  obtain ⟨x1, rfl, b1, d1⟩ := aG_int g1
  dsimp only at b1 d1
  obtain ⟨x2, rfl, b2, d2⟩ := aG_int g2
  dsimp only at b2 d2
  obtain ⟨x3, rfl, b3, d3⟩ := aG_int g3
  dsimp only at b3 d3
  obtain ⟨x4, rfl, b4, d4⟩ := aG_int g4
  dsimp only at b4 d4
  obtain ⟨x5, rfl, b5, d5⟩ := aG_int g5
  dsimp only at b5 d5
  obtain ⟨x6, rfl, b6, d6⟩ := aG_int g6
  dsimp only at b6 d6
  obtain ⟨x7, rfl, b7, d7⟩ := aG_int g7
  dsimp only at b7 d7
  obtain ⟨m1, m2, m3, m4⟩ := hM
  have l0 : 0 ≤ (1 * x2.toInt + (-512 * x4.toInt + (-8 * x5.toInt + (-1 * x6.toInt + 0)))) + 0 := by
    obtain ⟨z, e6, e7⟩ := m3 ([(2, 1), (4, -512), (5, -8), (6, -1)], 0) (List.mem_of_getElem? (i := 0) rfl)
    obtain rfl : (1 * x2.toInt + (-512 * x4.toInt + (-8 * x5.toInt + (-1 * x6.toInt + 0)))) = z := Option.some.inj (show some (1 * x2.toInt + (-512 * x4.toInt + (-8 * x5.toInt + (-1 * x6.toInt + 0)))) = some z from e6)
    exact e7
  have l1 : 0 ≤ (-1 * x2.toInt + (512 * x4.toInt + (8 * x5.toInt + (1 * x6.toInt + 0)))) + 0 := by
    obtain ⟨z, e6, e7⟩ := m3 ([(2, -1), (4, 512), (5, 8), (6, 1)], 0) (List.mem_of_getElem? (i := 1) rfl)
    obtain rfl : (-1 * x2.toInt + (512 * x4.toInt + (8 * x5.toInt + (1 * x6.toInt + 0)))) = z := Option.some.inj (show some (-1 * x2.toInt + (512 * x4.toInt + (8 * x5.toInt + (1 * x6.toInt + 0)))) = some z from e6)
    exact e7
  have l2 : 0 ≤ (1 * x6.toInt + (-2 * x7.toInt + 0)) + 0 := by
    obtain ⟨z, e6, e7⟩ := m3 ([(6, 1), (7, -2)], 0) (List.mem_of_getElem? (i := 2) rfl)
    obtain rfl : (1 * x6.toInt + (-2 * x7.toInt + 0)) = z := Option.some.inj (show some (1 * x6.toInt + (-2 * x7.toInt + 0)) = some z from e6)
    exact e7
  have l3 : 0 ≤ (-1 * x6.toInt + (5 * x7.toInt + 0)) + 0 := by
    obtain ⟨z, e6, e7⟩ := m3 ([(6, -1), (7, 5)], 0) (List.mem_of_getElem? (i := 3) rfl)
    obtain rfl : (-1 * x6.toInt + (5 * x7.toInt + 0)) = z := Option.some.inj (show some (-1 * x6.toInt + (5 * x7.toInt + 0)) = some z from e6)
    exact e7
  have l4 : 0 ≤ (1 * x1.toInt + (-1 * x3.toInt + 0)) + 0 := by
    obtain ⟨z, e6, e7⟩ := m3 ([(1, 1), (3, -1)], 0) (List.mem_of_getElem? (i := 4) rfl)
    obtain rfl : (1 * x1.toInt + (-1 * x3.toInt + 0)) = z := Option.some.inj (show some (1 * x1.toInt + (-1 * x3.toInt + 0)) = some z from e6)
    exact e7
  have f0 : fB K n p 94 [fR x0, fI x3, fI x1, fI x4, fI x5, fI x6] σ := by
    obtain ⟨w, e6, e7⟩ := m4 (1510, [0, 3, 1, 4, 5, 6]) (List.mem_of_getElem? (i := 0) rfl)
    obtain rfl : [fR x0, fI x3, fI x1, fI x4, fI x5, fI x6] = w := Option.some.inj (show some [fR x0, fI x3, fI x1, fI x4, fI x5, fI x6] = some w from e6)
    exact (fF_b (r := 1510) (by decide) rfl).mp e7
  have f1 : fB K n p 58 [fI x4, fI x7] σ := by
    obtain ⟨w, e6, e7⟩ := m4 (930, [4, 7]) (List.mem_of_getElem? (i := 1) rfl)
    obtain rfl : [fI x4, fI x7] = w := Option.some.inj (show some [fI x4, fI x7] = some w from e6)
    exact (fF_b (r := 930) (by decide) rfl).mp e7
  clear m1 m2 m3 m4
  obtain ⟨a9_0, lo9_0, hi9_0, r9_0, S0, C0, e9_0, T0, V0⟩ := (fL_o (by decide) (by decide)).mp f0
  cases e9_0
  obtain ⟨y0_0, y0_1, y0_2, e8_0, eS0, eC0, m0, o0, z0, v0⟩ := T0
  cases e8_0
  subst eS0
  subst eC0
  obtain ⟨y1_0, y1_1, e8_1, h1⟩ := fOr_l ((fE_o (by decide)).mp f1) (by rintro ⟨_, e9, -⟩; cases e9)
  cases e8_1
  have q0 : fB K n (p) 95 [fR x0, fI x3, fI x1, fI x4, fI x5, fI x6] (jup σ x0 (jsto (σ x0) x1.toNatClampNeg x2)) := by
    refine (fL_o (by decide) (by decide)).mpr ⟨x0, x3, x1, _, _, _, rfl, ⟨x4, x5, x6, rfl, rfl, rfl, m0, o0, z0, v0⟩, ?_⟩
    refine fCv_st V0 (by rw [fNc]; have e1 : fEc 94 = 0 := rfl; omega) (by have e1 : fEc 94 = 0 := rfl; show x3.toInt ≤ _; omega) (by have e1 : fEc 94 = 0 := rfl; have e2 : fEc 95 = 1 := rfl; omega) (⟨o0, Or.inl ⟨x5.toInt, x6.toInt, z0, v0, m0, fun h => ?_, fun h => ?_, trivial, by omega⟩⟩) (by
      rintro y ⟨y1, ⟨u, b, u1, u2, u3, u4, u5, hp, hy⟩ | h⟩
      · by_cases hh : u = x5.toInt ∧ b = x6.toInt
        · exact Or.inr (fI32 (by rw [hy, hh.1, hh.2]; omega))
        · exact Or.inl ⟨y1, Or.inl ⟨u, b, u1, u2, u3, u4, u5, by omega, hy⟩⟩
      · exact h.1.elim)
    · rcases h1 with ⟨q1, q2⟩ | ⟨q1, q2⟩
      · omega
      · exact absurd h q2
    · rcases h1 with ⟨q1, q2⟩ | ⟨q1, q2⟩
      · exact absurd q2 h
      · omega
  exact ⟨p, fun _ => rfl, ⟨(fun q h => by cases h), fun q h => (by cases h), (fun f h => by cases h), (aAllc ⟨_, rfl, fF_p (r := 1526) (by decide) (by decide) rfl q0⟩ (fun f h => by cases h))⟩, [], List.mem_cons_self, fun f h => (by cases h)⟩
set_option maxRecDepth 8192 in
theorem rw_ruGQnEN {K : Nat → Nat} {n : Nat} : aGho (fF K n) fa_T K n (fJX K n) ag_ruGQnEN := by
  refine aGho_of ⟨rfl, rfl⟩ ?_
  intro p σ ρ hH hX hA hM
  have hG := aAG_of hA.1 (fun i e v he hv => (hA.2 i e v he hv).1)
  clear hA
  obtain ⟨v0, v1, v2, v3, v4, v5, v6, v7, rfl, g0, g1, g2, g3, g4, g5, g6, g7⟩ := fA_8 hG
  clear hG
  obtain ⟨x0, rfl, b0, d0⟩ := fG_ref (by decide) g0
  obtain ⟨x1, rfl, b1, d1⟩ := aG_int g1
  dsimp only at b1 d1
  obtain ⟨x2, rfl, b2, d2⟩ := aG_int g2
  dsimp only at b2 d2
  obtain ⟨x3, rfl, b3, d3⟩ := aG_int g3
  dsimp only at b3 d3
  obtain ⟨x4, rfl, b4, d4⟩ := aG_int g4
  dsimp only at b4 d4
  obtain ⟨x5, rfl, b5, d5⟩ := aG_int g5
  dsimp only at b5 d5
  obtain ⟨x6, rfl, b6, d6⟩ := aG_int g6
  dsimp only at b6 d6
  obtain ⟨x7, rfl, b7, d7⟩ := aG_int g7
  dsimp only at b7 d7
  obtain ⟨m1, m2, m3, m4⟩ := hM
  have l0 : 0 ≤ (1 * x6.toInt + (-1 * x2.toInt + 0)) + -1 := by
    obtain ⟨z, e6, e7⟩ := m3 ([(6, 1), (2, -1)], -1) (List.mem_of_getElem? (i := 0) rfl)
    obtain rfl : (1 * x6.toInt + (-1 * x2.toInt + 0)) = z := Option.some.inj (show some (1 * x6.toInt + (-1 * x2.toInt + 0)) = some z from e6)
    exact e7
  have l1 : 0 ≤ (-1 * x6.toInt + (1 * x2.toInt + 0)) + 1 := by
    obtain ⟨z, e6, e7⟩ := m3 ([(6, -1), (2, 1)], 1) (List.mem_of_getElem? (i := 1) rfl)
    obtain rfl : (-1 * x6.toInt + (1 * x2.toInt + 0)) = z := Option.some.inj (show some (-1 * x6.toInt + (1 * x2.toInt + 0)) = some z from e6)
    exact e7
  have l2 : 0 ≤ (1 * x7.toInt + (-1 * x5.toInt + 0)) + -1 := by
    obtain ⟨z, e6, e7⟩ := m3 ([(7, 1), (5, -1)], -1) (List.mem_of_getElem? (i := 2) rfl)
    obtain rfl : (1 * x7.toInt + (-1 * x5.toInt + 0)) = z := Option.some.inj (show some (1 * x7.toInt + (-1 * x5.toInt + 0)) = some z from e6)
    exact e7
  have l3 : 0 ≤ (-1 * x7.toInt + (1 * x5.toInt + 0)) + 1 := by
    obtain ⟨z, e6, e7⟩ := m3 ([(7, -1), (5, 1)], 1) (List.mem_of_getElem? (i := 3) rfl)
    obtain rfl : (-1 * x7.toInt + (1 * x5.toInt + 0)) = z := Option.some.inj (show some (-1 * x7.toInt + (1 * x5.toInt + 0)) = some z from e6)
    exact e7
  have f0 : fB K n p 95 [fR x0, fI x1, fI x2, fI x3, fI x4, fI x5] σ := by
    obtain ⟨w, e6, e7⟩ := m4 (1526, [0, 1, 2, 3, 4, 5]) (List.mem_of_getElem? (i := 0) rfl)
    obtain rfl : [fR x0, fI x1, fI x2, fI x3, fI x4, fI x5] = w := Option.some.inj (show some [fR x0, fI x1, fI x2, fI x3, fI x4, fI x5] = some w from e6)
    exact (fF_b (r := 1526) (by decide) rfl).mp e7
  clear m1 m2 m3 m4
  obtain ⟨a9_0, lo9_0, hi9_0, r9_0, S0, C0, e9_0, T0, V0⟩ := (fL_o (by decide) (by decide)).mp f0
  cases e9_0
  obtain ⟨y0_0, y0_1, y0_2, e8_0, eS0, eC0, m0, o0, z0, v0⟩ := T0
  cases e8_0
  subst eS0
  subst eC0
  have q0 : fB K n (p) 94 [fR x0, fI x1, fI x6, fI x3, fI x4, fI x7] σ := by
    refine (fL_o (by decide) (by decide)).mpr ⟨x0, x1, x6, _, _, _, rfl, ⟨x3, x4, x7, rfl, rfl, rfl, m0, o0, z0, v0⟩, ?_⟩
    exact fCv_w V0 ((show _ = x1.toInt from rfl).trans (show x1.toInt = _ from rfl)) (by have e1 : fEc 95 = 1 := rfl; have e2 : fEc 94 = 0 := rfl; omega) (fun x h => h) (by
      rintro y ⟨y1, ⟨u, b, u1, u2, u3, u4, u5, hp, hy⟩ | h⟩
      · exact ⟨y1, Or.inl ⟨u, b, u1, u2, u3, u4, u5, by omega, hy⟩⟩
      · exact h.1.elim)
  exact ⟨p, fun _ => rfl, ⟨(fun q h => by cases h), fun q h => (by cases h), (fun f h => by cases h), (aAllc ⟨_, rfl, (fF_b (r := 1510) (by decide) rfl).mpr q0⟩ (fun f h => by cases h))⟩, [], List.mem_cons_self, fun f h => (by cases h)⟩
set_option maxRecDepth 8192 in
theorem rw_ruGQqEN {K : Nat → Nat} {n : Nat} : aGho (fF K n) fa_T K n (fJX K n) ag_ruGQqEN := by
  refine aGho_of ⟨rfl, rfl⟩ ?_
  intro p σ ρ hH hX hA hM
  have hG := aAG_of hA.1 (fun i e v he hv => (hA.2 i e v he hv).1)
  clear hA
  obtain ⟨v0, v1, v2, v3, v4, v5, v6, v7, rfl, g0, g1, g2, g3, g4, g5, g6, g7⟩ := fA_8 hG
  clear hG
  obtain ⟨x0, rfl, b0, d0⟩ := fG_ref (by decide) g0
  obtain ⟨x1, rfl, b1, d1⟩ := aG_int g1
  dsimp only at b1 d1
  obtain ⟨x2, rfl, b2, d2⟩ := aG_int g2
  dsimp only at b2 d2
  obtain ⟨x3, rfl, b3, d3⟩ := aG_int g3
  dsimp only at b3 d3
  obtain ⟨x4, rfl, b4, d4⟩ := aG_int g4
  dsimp only at b4 d4
  obtain ⟨x5, rfl, b5, d5⟩ := aG_int g5
  dsimp only at b5 d5
  obtain ⟨x6, rfl, b6, d6⟩ := aG_int g6
  dsimp only at b6 d6
  obtain ⟨x7, rfl, b7, d7⟩ := aG_int g7
  dsimp only at b7 d7
  obtain ⟨m1, m2, m3, m4⟩ := hM
  have l0 : 0 ≤ (1 * x7.toInt + (-1 * x4.toInt + 0)) + -1 := by
    obtain ⟨z, e6, e7⟩ := m3 ([(7, 1), (4, -1)], -1) (List.mem_of_getElem? (i := 0) rfl)
    obtain rfl : (1 * x7.toInt + (-1 * x4.toInt + 0)) = z := Option.some.inj (show some (1 * x7.toInt + (-1 * x4.toInt + 0)) = some z from e6)
    exact e7
  have l1 : 0 ≤ (-1 * x7.toInt + (1 * x4.toInt + 0)) + 1 := by
    obtain ⟨z, e6, e7⟩ := m3 ([(7, -1), (4, 1)], 1) (List.mem_of_getElem? (i := 1) rfl)
    obtain rfl : (-1 * x7.toInt + (1 * x4.toInt + 0)) = z := Option.some.inj (show some (-1 * x7.toInt + (1 * x4.toInt + 0)) = some z from e6)
    exact e7
  have l2 : 0 ≤ (1 * x5.toInt + (-5 * x6.toInt + 0)) + -1 := by
    obtain ⟨z, e6, e7⟩ := m3 ([(5, 1), (6, -5)], -1) (List.mem_of_getElem? (i := 2) rfl)
    obtain rfl : (1 * x5.toInt + (-5 * x6.toInt + 0)) = z := Option.some.inj (show some (1 * x5.toInt + (-5 * x6.toInt + 0)) = some z from e6)
    exact e7
  have f0 : fB K n p 94 [fR x0, fI x1, fI x2, fI x3, fI x4, fI x5] σ := by
    obtain ⟨w, e6, e7⟩ := m4 (1510, [0, 1, 2, 3, 4, 5]) (List.mem_of_getElem? (i := 0) rfl)
    obtain rfl : [fR x0, fI x1, fI x2, fI x3, fI x4, fI x5] = w := Option.some.inj (show some [fR x0, fI x1, fI x2, fI x3, fI x4, fI x5] = some w from e6)
    exact (fF_b (r := 1510) (by decide) rfl).mp e7
  have f1 : fB K n p 58 [fI x3, fI x6] σ := by
    obtain ⟨w, e6, e7⟩ := m4 (930, [3, 6]) (List.mem_of_getElem? (i := 1) rfl)
    obtain rfl : [fI x3, fI x6] = w := Option.some.inj (show some [fI x3, fI x6] = some w from e6)
    exact (fF_b (r := 930) (by decide) rfl).mp e7
  clear m1 m2 m3 m4
  obtain ⟨a9_0, lo9_0, hi9_0, r9_0, S0, C0, e9_0, T0, V0⟩ := (fL_o (by decide) (by decide)).mp f0
  cases e9_0
  obtain ⟨y0_0, y0_1, y0_2, e8_0, eS0, eC0, m0, o0, z0, v0⟩ := T0
  cases e8_0
  subst eS0
  subst eC0
  obtain ⟨y1_0, y1_1, e8_1, h1⟩ := fOr_l ((fE_o (by decide)).mp f1) (by rintro ⟨_, e9, -⟩; cases e9)
  cases e8_1
  have q0 : fB K n (p) 93 [fR x0, fI x1, fI x2, fI x3, fI x7] σ := by
    refine (fL_o (by decide) (by decide)).mpr ⟨x0, x1, x2, _, _, _, rfl, ⟨x3, x7, rfl, rfl, rfl, o0, by omega⟩, ?_⟩
    exact fCv_w V0 ((show _ = x1.toInt from rfl).trans (show x1.toInt = _ from rfl)) (by have e1 : fEc 94 = 0 := rfl; have e2 : fEc 93 = 0 := rfl; omega) (fun x h => h) (by
      rintro y ⟨y1, ⟨u, b, u1, u2, u3, u4, u5, hp, hy⟩ | h⟩
      · refine ⟨y1, Or.inl ⟨u, b, u1, u2, u3, u4, u5, ?_, hy⟩⟩
        rcases h1 with ⟨q1, q2⟩ | ⟨q1, q2⟩
        · have := u4 q2
          omega
        · have := u5 q2
          omega
      · exact h.1.elim)
  exact ⟨p, fun _ => rfl, ⟨(fun q h => by cases h), fun q h => (by cases h), (fun f h => by cases h), (aAllc ⟨_, rfl, (fF_b (r := 1493) (by decide) rfl).mpr q0⟩ (fun f h => by cases h))⟩, [], List.mem_cons_self, fun f h => (by cases h)⟩
set_option maxRecDepth 8192 in
theorem rw_ruGQzEN {K : Nat → Nat} {n : Nat} : aGho (fF K n) fa_T K n (fJX K n) ag_ruGQzEN := by
  refine aGho_of ⟨rfl, rfl⟩ ?_
  intro p σ ρ hH hX hA hM
  have hG := aAG_of hA.1 (fun i e v he hv => (hA.2 i e v he hv).1)
  clear hA
  obtain ⟨v0, v1, v2, v3, v4, v5, rfl, g0, g1, g2, g3, g4, g5⟩ := fA_6 hG
  clear hG
  obtain ⟨x0, rfl, b0, d0⟩ := fG_ref (by decide) g0
  obtain ⟨x1, rfl, b1, d1⟩ := aG_int g1
  dsimp only at b1 d1
  obtain ⟨x2, rfl, b2, d2⟩ := aG_int g2
  dsimp only at b2 d2
  obtain ⟨x3, rfl, b3, d3⟩ := aG_int g3
  dsimp only at b3 d3
  obtain ⟨x4, rfl, b4, d4⟩ := aG_int g4
  dsimp only at b4 d4
  obtain ⟨x5, rfl, b5, d5⟩ := aG_int g5
  dsimp only at b5 d5
  obtain ⟨m1, m2, m3, m4⟩ := hM
  have l0 : 0 ≤ (1 * x5.toInt + (-1 * x4.toInt + 0)) + -1 := by
    obtain ⟨z, e6, e7⟩ := m3 ([(5, 1), (4, -1)], -1) (List.mem_of_getElem? (i := 0) rfl)
    obtain rfl : (1 * x5.toInt + (-1 * x4.toInt + 0)) = z := Option.some.inj (show some (1 * x5.toInt + (-1 * x4.toInt + 0)) = some z from e6)
    exact e7
  have l1 : 0 ≤ (-1 * x5.toInt + (1 * x4.toInt + 0)) + 1 := by
    obtain ⟨z, e6, e7⟩ := m3 ([(5, -1), (4, 1)], 1) (List.mem_of_getElem? (i := 1) rfl)
    obtain rfl : (-1 * x5.toInt + (1 * x4.toInt + 0)) = z := Option.some.inj (show some (-1 * x5.toInt + (1 * x4.toInt + 0)) = some z from e6)
    exact e7
  have f0 : fB K n p 57 [fI x3, fI x4] σ := by
    obtain ⟨w, e6, e7⟩ := m4 (914, [3, 4]) (List.mem_of_getElem? (i := 0) rfl)
    obtain rfl : [fI x3, fI x4] = w := Option.some.inj (show some [fI x3, fI x4] = some w from e6)
    exact (fF_b (r := 914) (by decide) rfl).mp e7
  have f1 : fB K n p 93 [fR x0, fI x1, fI x2, fI x3, fI x4] σ := by
    obtain ⟨w, e6, e7⟩ := m4 (1493, [0, 1, 2, 3, 4]) (List.mem_of_getElem? (i := 1) rfl)
    obtain rfl : [fR x0, fI x1, fI x2, fI x3, fI x4] = w := Option.some.inj (show some [fR x0, fI x1, fI x2, fI x3, fI x4] = some w from e6)
    exact (fF_b (r := 1493) (by decide) rfl).mp e7
  clear m1 m2 m3 m4
  obtain ⟨y0_0, y0_1, e8_0, h0⟩ := fOr_l ((fE_o (by decide)).mp f0) (by rintro ⟨_, _, _, _, _, _, e9, -⟩; cases e9)
  cases e8_0
  obtain ⟨a9_1, lo9_1, hi9_1, r9_1, S1, C1, e9_1, T1, V1⟩ := (fL_o (by decide) (by decide)).mp f1
  cases e9_1
  obtain ⟨y1_0, y1_1, e8_1, eS1, eC1, o1, z1⟩ := T1
  cases e8_1
  subst eS1
  subst eC1
  have q0 : fB K n (p) 93 [fR x0, fI x1, fI x2, fI x3, fI x5] σ := by
    refine (fL_o (by decide) (by decide)).mpr ⟨x0, x1, x2, _, _, _, rfl, ⟨x3, x5, rfl, rfl, rfl, o1, by omega⟩, ?_⟩
    exact fCv_w V1 ((show _ = x1.toInt from rfl).trans (show x1.toInt = _ from rfl)) (by have e1 : fEc 93 = 0 := rfl; have e2 : fEc 93 = 0 := rfl; omega) (fun x h => h) (by
      rintro y ⟨y1, ⟨u, b, u1, u2, u3, u4, u5, hp, hy⟩ | h⟩
      · refine ⟨y1, Or.inl ⟨u, b, u1, u2, u3, u4, u5, ?_, hy⟩⟩
        by_cases hh : u = x4.toInt
        · rw [hh] at u3
          exact absurd u3 h0
        · omega
      · exact h.1.elim)
  exact ⟨p, fun _ => rfl, ⟨(fun q h => by cases h), fun q h => (by cases h), (fun f h => by cases h), (aAllc ⟨_, rfl, (fF_b (r := 1493) (by decide) rfl).mpr q0⟩ (fun f h => by cases h))⟩, [], List.mem_cons_self, fun f h => (by cases h)⟩
set_option maxRecDepth 8192 in
theorem rw_ruGQdEN {K : Nat → Nat} {n : Nat} : aGho (fF K n) fa_T K n (fJX K n) ag_ruGQdEN := by
  refine aGho_of ⟨rfl, rfl⟩ ?_
  intro p σ ρ hH hX hA hM
  have hG := aAG_of hA.1 (fun i e v he hv => (hA.2 i e v he hv).1)
  clear hA
  obtain ⟨v0, v1, v2, v3, v4, v5, rfl, g0, g1, g2, g3, g4, g5⟩ := fA_6 hG
  clear hG
  obtain ⟨x0, rfl, b0, d0⟩ := fG_ref (by decide) g0
  obtain ⟨x1, rfl, b1, d1⟩ := aG_int g1
  dsimp only at b1 d1
  obtain ⟨x2, rfl, b2, d2⟩ := aG_int g2
  dsimp only at b2 d2
  obtain ⟨x3, rfl, b3, d3⟩ := aG_int g3
  dsimp only at b3 d3
  obtain ⟨x4, rfl, b4, d4⟩ := aG_int g4
  dsimp only at b4 d4
  obtain ⟨x5, rfl, b5, d5⟩ := aG_int g5
  dsimp only at b5 d5
  obtain ⟨m1, m2, m3, m4⟩ := hM
  have l0 : 0 ≤ (1 * x4.toInt + (-1 * x5.toInt + 0)) + -2 := by
    obtain ⟨z, e6, e7⟩ := m3 ([(4, 1), (5, -1)], -2) (List.mem_of_getElem? (i := 0) rfl)
    obtain rfl : (1 * x4.toInt + (-1 * x5.toInt + 0)) = z := Option.some.inj (show some (1 * x4.toInt + (-1 * x5.toInt + 0)) = some z from e6)
    exact e7
  have f0 : fB K n p 93 [fR x0, fI x1, fI x2, fI x3, fI x4] σ := by
    obtain ⟨w, e6, e7⟩ := m4 (1493, [0, 1, 2, 3, 4]) (List.mem_of_getElem? (i := 0) rfl)
    obtain rfl : [fR x0, fI x1, fI x2, fI x3, fI x4] = w := Option.some.inj (show some [fR x0, fI x1, fI x2, fI x3, fI x4] = some w from e6)
    exact (fF_b (r := 1493) (by decide) rfl).mp e7
  have f1 : fB K n p 59 [fI x3, fI x5] σ := by
    obtain ⟨w, e6, e7⟩ := m4 (946, [3, 5]) (List.mem_of_getElem? (i := 1) rfl)
    obtain rfl : [fI x3, fI x5] = w := Option.some.inj (show some [fI x3, fI x5] = some w from e6)
    exact (fF_b (r := 946) (by decide) rfl).mp e7
  clear m1 m2 m3 m4
  obtain ⟨a9_0, lo9_0, hi9_0, r9_0, S0, C0, e9_0, T0, V0⟩ := (fL_o (by decide) (by decide)).mp f0
  cases e9_0
  obtain ⟨y0_0, y0_1, e8_0, eS0, eC0, o0, z0⟩ := T0
  cases e8_0
  subst eS0
  subst eC0
  obtain ⟨y1_0, y1_1, e8_1, h1⟩ := fOr_l ((fE_o (by decide)).mp f1) (by rintro ⟨_, _, e9, -⟩; cases e9)
  cases e8_1
  have eo : fOne (fq p).2 x3.toInt = x5.toInt := h1.symm
  have q0 : fB K n (p) 97 [fR x0, fI x1, fI x2, fI x3] σ := by
    refine (fL_o (by decide) (by decide)).mpr ⟨x0, x1, x2, _, _, _, rfl, ⟨x3, rfl, rfl, rfl, o0⟩, ?_⟩
    exact fCv_w V0 ((show _ = x1.toInt from rfl).trans (show x1.toInt = _ from rfl)) (by have e1 : fEc 93 = 0 := rfl; have e2 : fEc 97 = 0 := rfl; omega) (fun x h => h) (by
      rintro y ⟨y1, ⟨u, b, u1, u2, u3, u4, u5, hp, hy⟩ | h⟩
      · exact ⟨y1, Or.inl ⟨u, b, u1, u2, u3, u4, u5, by omega, hy⟩⟩
      · exact h.1.elim)
  exact ⟨p, fun _ => rfl, ⟨(fun q h => by cases h), fun q h => (by cases h), (fun f h => by cases h), (aAllc ⟨_, rfl, (fF_b (r := 1556) (by decide) rfl).mpr q0⟩ (fun f h => by cases h))⟩, [], List.mem_cons_self, fun f h => (by cases h)⟩
set_option maxRecDepth 8192 in
theorem rw_ruGRsEN {K : Nat → Nat} {n : Nat} : aGho (fF K n) fa_T K n (fJX K n) ag_ruGRsEN := by
  refine aGho_of ⟨rfl, rfl⟩ ?_
  intro p σ ρ hH hX hA hM
  have hG := aAG_of hA.1 (fun i e v he hv => (hA.2 i e v he hv).1)
  clear hA
  obtain ⟨v0, v1, v2, v3, v4, v5, v6, v7, v8, v9, v10, rfl, g0, g1, g2, g3, g4, g5, g6, g7, g8, g9, g10⟩ := fA_11 hG
  clear hG
  obtain ⟨x0, rfl, b0, d0⟩ := fG_ref (by decide) g0
  obtain ⟨x1, rfl, b1, d1⟩ := aG_int g1
  dsimp only at b1 d1
  obtain ⟨x2, rfl, b2, d2⟩ := aG_int g2
  dsimp only at b2 d2
  obtain ⟨x3, rfl, b3, d3⟩ := aG_int g3
  dsimp only at b3 d3
  obtain ⟨x4, rfl, b4, d4⟩ := aG_int g4
  dsimp only at b4 d4
  obtain ⟨x5, rfl, b5, d5⟩ := aG_int g5
  dsimp only at b5 d5
  obtain ⟨x6, rfl, b6, d6⟩ := fG_ref (by decide) g6
  obtain ⟨x7, rfl, b7, d7⟩ := aG_int g7
  dsimp only at b7 d7
  obtain ⟨x8, rfl, b8, d8⟩ := aG_int g8
  dsimp only at b8 d8
  obtain ⟨x9, rfl, b9, d9⟩ := aG_int g9
  dsimp only at b9 d9
  obtain ⟨x10, rfl, b10, d10⟩ := aG_int g10
  dsimp only at b10 d10
  obtain ⟨m1, m2, m3, m4⟩ := hM
  obtain ⟨a0, c0, fs0, w0, e1, s0, t0, e4⟩ := m1 (6, 2, 10) (List.mem_of_getElem? (i := 0) rfl)
  obtain rfl : x6 = a0 := Sum.inl.inj (Option.some.inj (Sum.inr.inj (Sum.inr.inj (Option.some.inj (show some (fR x6) = some _ from e1)))))
  obtain rfl : fI x10 = w0 := Option.some.inj (show some (fI x10) = some w0 from e4)
  clear e1 e4
  have l0 : 0 ≤ (1 * x2.toInt + (-512 * x4.toInt + (-8 * x5.toInt + (-8 * x8.toInt + 0)))) + 0 := by
    obtain ⟨z, e6, e7⟩ := m3 ([(2, 1), (4, -512), (5, -8), (8, -8)], 0) (List.mem_of_getElem? (i := 0) rfl)
    obtain rfl : (1 * x2.toInt + (-512 * x4.toInt + (-8 * x5.toInt + (-8 * x8.toInt + 0)))) = z := Option.some.inj (show some (1 * x2.toInt + (-512 * x4.toInt + (-8 * x5.toInt + (-8 * x8.toInt + 0)))) = some z from e6)
    exact e7
  have l1 : 0 ≤ (-1 * x2.toInt + (512 * x4.toInt + (8 * x5.toInt + (8 * x8.toInt + 0)))) + 0 := by
    obtain ⟨z, e6, e7⟩ := m3 ([(2, -1), (4, 512), (5, 8), (8, 8)], 0) (List.mem_of_getElem? (i := 1) rfl)
    obtain rfl : (-1 * x2.toInt + (512 * x4.toInt + (8 * x5.toInt + (8 * x8.toInt + 0)))) = z := Option.some.inj (show some (-1 * x2.toInt + (512 * x4.toInt + (8 * x5.toInt + (8 * x8.toInt + 0)))) = some z from e6)
    exact e7
  have l2 : 0 ≤ (1 * x1.toInt + (-1 * x3.toInt + 0)) + 0 := by
    obtain ⟨z, e6, e7⟩ := m3 ([(1, 1), (3, -1)], 0) (List.mem_of_getElem? (i := 2) rfl)
    obtain rfl : (1 * x1.toInt + (-1 * x3.toInt + 0)) = z := Option.some.inj (show some (1 * x1.toInt + (-1 * x3.toInt + 0)) = some z from e6)
    exact e7
  have l3 : 0 ≤ (1 * x8.toInt + (16 * x10.toInt + 0)) + -8 := by
    obtain ⟨z, e6, e7⟩ := m3 ([(8, 1), (10, 16)], -8) (List.mem_of_getElem? (i := 3) rfl)
    obtain rfl : (1 * x8.toInt + (16 * x10.toInt + 0)) = z := Option.some.inj (show some (1 * x8.toInt + (16 * x10.toInt + 0)) = some z from e6)
    exact e7
  have l4 : 0 ≤ (-1 * x8.toInt + (-16 * x10.toInt + 0)) + 8 := by
    obtain ⟨z, e6, e7⟩ := m3 ([(8, -1), (10, -16)], 8) (List.mem_of_getElem? (i := 4) rfl)
    obtain rfl : (-1 * x8.toInt + (-16 * x10.toInt + 0)) = z := Option.some.inj (show some (-1 * x8.toInt + (-16 * x10.toInt + 0)) = some z from e6)
    exact e7
  have l5 : 0 ≤ (1 * x4.toInt + (-40 * x10.toInt + 0)) + -8 := by
    obtain ⟨z, e6, e7⟩ := m3 ([(4, 1), (10, -40)], -8) (List.mem_of_getElem? (i := 5) rfl)
    obtain rfl : (1 * x4.toInt + (-40 * x10.toInt + 0)) = z := Option.some.inj (show some (1 * x4.toInt + (-40 * x10.toInt + 0)) = some z from e6)
    exact e7
  have l6 : 0 ≤ (-1 * x4.toInt + (40 * x10.toInt + 0)) + 15 := by
    obtain ⟨z, e6, e7⟩ := m3 ([(4, -1), (10, 40)], 15) (List.mem_of_getElem? (i := 6) rfl)
    obtain rfl : (-1 * x4.toInt + (40 * x10.toInt + 0)) = z := Option.some.inj (show some (-1 * x4.toInt + (40 * x10.toInt + 0)) = some z from e6)
    exact e7
  have f0 : fB K n p 1 [fR x6] σ := by
    obtain ⟨w, e6, e7⟩ := m4 (17, [6]) (List.mem_of_getElem? (i := 0) rfl)
    obtain rfl : [fR x6] = w := Option.some.inj (show some [fR x6] = some w from e6)
    exact (fF_b (r := 17) (by decide) rfl).mp e7
  have f1 : fB K n p 97 [fR x0, fI x3, fI x1, fI x4] σ := by
    obtain ⟨w, e6, e7⟩ := m4 (1556, [0, 3, 1, 4]) (List.mem_of_getElem? (i := 1) rfl)
    obtain rfl : [fR x0, fI x3, fI x1, fI x4] = w := Option.some.inj (show some [fR x0, fI x3, fI x1, fI x4] = some w from e6)
    exact (fF_b (r := 1556) (by decide) rfl).mp e7
  have f2 : fB K n p 39 [fI x5, fI x7] σ := by
    obtain ⟨w, e6, e7⟩ := m4 (626, [5, 7]) (List.mem_of_getElem? (i := 2) rfl)
    obtain rfl : [fI x5, fI x7] = w := Option.some.inj (show some [fI x5, fI x7] = some w from e6)
    exact (fF_b (r := 626) (by decide) rfl).mp e7
  have f3 : fB K n p 59 [fI x4, fI x4, fI x9] σ := by
    obtain ⟨w, e6, e7⟩ := m4 (947, [4, 4, 9]) (List.mem_of_getElem? (i := 3) rfl)
    obtain rfl : [fI x4, fI x4, fI x9] = w := Option.some.inj (show some [fI x4, fI x4, fI x9] = some w from e6)
    exact (fF_b (r := 947) (by decide) rfl).mp e7
  have f4 : fB K n p 59 [fI x4, fI x5] σ := by
    obtain ⟨w, e6, e7⟩ := m4 (946, [4, 5]) (List.mem_of_getElem? (i := 4) rfl)
    obtain rfl : [fI x4, fI x5] = w := Option.some.inj (show some [fI x4, fI x5] = some w from e6)
    exact (fF_b (r := 946) (by decide) rfl).mp e7
  clear m1 m2 m3 m4
  obtain ⟨a9_0, e9_0, h0, g0⟩ := f0
  cases e9_0
  obtain ⟨a9_1, lo9_1, hi9_1, r9_1, S1, C1, e9_1, T1, V1⟩ := (fL_o (by decide) (by decide)).mp f1
  cases e9_1
  obtain ⟨y1_0, e8_1, eS1, eC1, o1⟩ := T1
  cases e8_1
  subst eS1
  subst eC1
  obtain ⟨y2_0, y2_1, e9_2, h2⟩ := f2
  cases e9_2
  obtain ⟨y3_0, y3_1, e8_3, h3⟩ := fOr_r ((fE_o (by decide)).mp f3) (by rintro ⟨_, _, e9, -⟩; cases e9)
  cases e8_3
  obtain ⟨y4_0, y4_1, e8_4, h4⟩ := fOr_l ((fE_o (by decide)).mp f4) (by rintro ⟨_, _, e9, -⟩; cases e9)
  cases e8_4
  have hF := fAt_of h0 s0
  have hsd := hF.2.1 x10 t0
  have hsi : ((fq p).2 2).toInt = x10.toInt := by rw [← hsd]
  have eo : fOne (fq p).2 x4.toInt = x5.toInt := h4.symm
  rw [fNc] at h2
  have q0 : fB K n (p) 98 [fR x0, fI x3, fI x1, fI x4] (jup σ x0 (jsto (σ x0) x1.toNatClampNeg x2)) := by
    refine (fL_o (by decide) (by decide)).mpr ⟨x0, x3, x1, _, _, _, rfl, ⟨x4, rfl, rfl, rfl⟩, ?_⟩
    exact fCv_st V1 (by rw [fNc]; have e1 : fEc 97 = 0 := rfl; omega) (by have e1 : fEc 97 = 0 := rfl; show x3.toInt ≤ _; omega) (by have e1 : fEc 97 = 0 := rfl; have e2 : fEc 98 = 1 := rfl; omega) (⟨o1, Or.inr ⟨trivial, by omega, by rw [eo, h2]; omega, by rw [h3]; omega, by omega⟩⟩) (by
      rintro y ⟨y1, hy | ⟨-, hc1, hc2, hc3, hy⟩⟩
      · exact Or.inl ⟨y1, Or.inl hy⟩
      · exact Or.inr (fI32 (by rw [hy]; omega)))
  exact ⟨p, fun _ => rfl, ⟨(fun q h => by cases h), fun q h => (by cases h), (fun f h => by cases h), (aAllc ⟨_, rfl, fF_p (r := 1572) (by decide) (by decide) rfl q0⟩ (fun f h => by cases h))⟩, [], List.mem_cons_self, fun f h => (by cases h)⟩
set_option maxRecDepth 8192 in
theorem rw_ruGRnEN {K : Nat → Nat} {n : Nat} : aGho (fF K n) fa_T K n (fJX K n) ag_ruGRnEN := by
  refine aGho_of ⟨rfl, rfl⟩ ?_
  intro p σ ρ hH hX hA hM
  have hG := aAG_of hA.1 (fun i e v he hv => (hA.2 i e v he hv).1)
  clear hA
  obtain ⟨v0, v1, v2, v3, v4, rfl, g0, g1, g2, g3, g4⟩ := fA_5 hG
  clear hG
  obtain ⟨x0, rfl, b0, d0⟩ := fG_ref (by decide) g0
  obtain ⟨x1, rfl, b1, d1⟩ := aG_int g1
  dsimp only at b1 d1
  obtain ⟨x2, rfl, b2, d2⟩ := aG_int g2
  dsimp only at b2 d2
  obtain ⟨x3, rfl, b3, d3⟩ := aG_int g3
  dsimp only at b3 d3
  obtain ⟨x4, rfl, b4, d4⟩ := aG_int g4
  dsimp only at b4 d4
  obtain ⟨m1, m2, m3, m4⟩ := hM
  have l0 : 0 ≤ (1 * x4.toInt + (-1 * x2.toInt + 0)) + -1 := by
    obtain ⟨z, e6, e7⟩ := m3 ([(4, 1), (2, -1)], -1) (List.mem_of_getElem? (i := 0) rfl)
    obtain rfl : (1 * x4.toInt + (-1 * x2.toInt + 0)) = z := Option.some.inj (show some (1 * x4.toInt + (-1 * x2.toInt + 0)) = some z from e6)
    exact e7
  have l1 : 0 ≤ (-1 * x4.toInt + (1 * x2.toInt + 0)) + 1 := by
    obtain ⟨z, e6, e7⟩ := m3 ([(4, -1), (2, 1)], 1) (List.mem_of_getElem? (i := 1) rfl)
    obtain rfl : (-1 * x4.toInt + (1 * x2.toInt + 0)) = z := Option.some.inj (show some (-1 * x4.toInt + (1 * x2.toInt + 0)) = some z from e6)
    exact e7
  have f0 : fB K n p 98 [fR x0, fI x1, fI x2, fI x3] σ := by
    obtain ⟨w, e6, e7⟩ := m4 (1572, [0, 1, 2, 3]) (List.mem_of_getElem? (i := 0) rfl)
    obtain rfl : [fR x0, fI x1, fI x2, fI x3] = w := Option.some.inj (show some [fR x0, fI x1, fI x2, fI x3] = some w from e6)
    exact (fF_b (r := 1572) (by decide) rfl).mp e7
  have f1 : fB K n p 34 [fI x3] σ := by
    obtain ⟨w, e6, e7⟩ := m4 (545, [3]) (List.mem_of_getElem? (i := 1) rfl)
    obtain rfl : [fI x3] = w := Option.some.inj (show some [fI x3] = some w from e6)
    exact (fF_b (r := 545) (by decide) rfl).mp e7
  clear m1 m2 m3 m4
  obtain ⟨a9_0, lo9_0, hi9_0, r9_0, S0, C0, e9_0, T0, V0⟩ := (fL_o (by decide) (by decide)).mp f0
  cases e9_0
  obtain ⟨y0_0, e8_0, eS0, eC0⟩ := T0
  cases e8_0
  subst eS0
  subst eC0
  obtain ⟨y1_0, e9_1, h1⟩ := f1
  cases e9_1
  have hmk : ((fq p).1 x3.toInt.toNat).toInt % 8 = 1 := by
    unfold fOw at h1
    rw [fNc] at h1
    rw [h1]
    omega
  have q0 : fB K n (p) 81 [fR x0, fI x1, fI x4, fI x3] σ := by
    refine (fL_o (by decide) (by decide)).mpr ⟨x0, x1, x4, _, _, _, rfl, (Or.inl ⟨x3, rfl, rfl, rfl⟩), ?_⟩
    exact fCv_w V0 ((show _ = x1.toInt from rfl).trans (show x1.toInt = _ from rfl)) (by have e1 : fEc 98 = 1 := rfl; have e2 : fEc 81 = 0 := rfl; omega) (fun x h => Or.inl ⟨hmk, h⟩) (by
      intro y hy
      unfold fGn at hy
      rw [hmk] at hy
      rcases hy with ⟨-, hy⟩ | hy | hy | hy
      · exact hy
      · omega
      · omega
      · omega)
  exact ⟨p, fun _ => rfl, ⟨(fun q h => by cases h), fun q h => (by cases h), (fun f h => by cases h), (aAllc ⟨_, rfl, (fF_b (r := 1300) (by decide) rfl).mpr q0⟩ (fun f h => by cases h))⟩, [], List.mem_cons_self, fun f h => (by cases h)⟩
set_option maxRecDepth 8192 in
theorem rw_ruGRrEN {K : Nat → Nat} {n : Nat} : aGho (fF K n) fa_T K n (fJX K n) ag_ruGRrEN := by
  refine aGho_of ⟨rfl, rfl⟩ ?_
  intro p σ ρ hH hX hA hM
  have hG := aAG_of hA.1 (fun i e v he hv => (hA.2 i e v he hv).1)
  clear hA
  obtain ⟨v0, v1, v2, v3, rfl, g0, g1, g2, g3⟩ := fA_4 hG
  clear hG
  obtain ⟨x0, rfl, b0, d0⟩ := fG_ref (by decide) g0
  obtain ⟨x1, rfl, b1, d1⟩ := aG_int g1
  dsimp only at b1 d1
  obtain ⟨x2, rfl, b2, d2⟩ := aG_int g2
  dsimp only at b2 d2
  obtain ⟨x3, rfl, b3, d3⟩ := aG_int g3
  dsimp only at b3 d3
  obtain ⟨m1, m2, m3, m4⟩ := hM
  have f0 : fB K n p 58 [fI x3] σ := by
    obtain ⟨w, e6, e7⟩ := m4 (929, [3]) (List.mem_of_getElem? (i := 0) rfl)
    obtain rfl : [fI x3] = w := Option.some.inj (show some [fI x3] = some w from e6)
    exact (fF_b (r := 929) (by decide) rfl).mp e7
  have f1 : fB K n p 97 [fR x0, fI x1, fI x2, fI x3] σ := by
    obtain ⟨w, e6, e7⟩ := m4 (1556, [0, 1, 2, 3]) (List.mem_of_getElem? (i := 1) rfl)
    obtain rfl : [fR x0, fI x1, fI x2, fI x3] = w := Option.some.inj (show some [fR x0, fI x1, fI x2, fI x3] = some w from e6)
    exact (fF_b (r := 1556) (by decide) rfl).mp e7
  have f2 : fB K n p 34 [fI x3] σ := by
    obtain ⟨w, e6, e7⟩ := m4 (545, [3]) (List.mem_of_getElem? (i := 2) rfl)
    obtain rfl : [fI x3] = w := Option.some.inj (show some [fI x3] = some w from e6)
    exact (fF_b (r := 545) (by decide) rfl).mp e7
  clear m1 m2 m3 m4
  obtain ⟨y0_0, e8_0, h0⟩ := fOr_r ((fE_o (by decide)).mp f0) (by rintro ⟨_, _, e9, -⟩; cases e9)
  cases e8_0
  obtain ⟨a9_1, lo9_1, hi9_1, r9_1, S1, C1, e9_1, T1, V1⟩ := (fL_o (by decide) (by decide)).mp f1
  cases e9_1
  obtain ⟨y1_0, e8_1, eS1, eC1, o1⟩ := T1
  cases e8_1
  subst eS1
  subst eC1
  obtain ⟨y2_0, e9_2, h2⟩ := f2
  cases e9_2
  have hmk : ((fq p).1 x3.toInt.toNat).toInt % 8 = 1 := by
    unfold fOw at h2
    rw [fNc] at h2
    rw [h2]
    omega
  have q0 : fB K n (p) 81 [fR x0, fI x1, fI x2, fI x3] σ := by
    refine (fL_o (by decide) (by decide)).mpr ⟨x0, x1, x2, _, _, _, rfl, (Or.inl ⟨x3, rfl, rfl, rfl⟩), ?_⟩
    exact fCv_w V1 ((show _ = x1.toInt from rfl).trans (show x1.toInt = _ from rfl)) (by have e1 : fEc 97 = 0 := rfl; have e2 : fEc 81 = 0 := rfl; omega) (fun x h => Or.inl ⟨hmk, h⟩) (by
      intro y hy
      unfold fGn at hy
      rw [hmk] at hy
      rcases hy with ⟨-, y1, hy | ⟨-, hc1, hc2, hc3, hy⟩⟩ | hy | hy | hy
      · exact ⟨y1, Or.inl hy⟩
      · exfalso
        exact h0 hc1
      · omega
      · omega
      · omega)
  exact ⟨p, fun _ => rfl, ⟨(fun q h => by cases h), fun q h => (by cases h), (fun f h => by cases h), (aAllc ⟨_, rfl, (fF_b (r := 1300) (by decide) rfl).mpr q0⟩ (fun f h => by cases h))⟩, [], List.mem_cons_self, fun f h => (by cases h)⟩
set_option maxRecDepth 8192 in
theorem rw_ruGR1EN {K : Nat → Nat} {n : Nat} : aGho (fF K n) fa_T K n (fJX K n) ag_ruGR1EN := by
  refine aGho_of ⟨rfl, rfl⟩ ?_
  intro p σ ρ hH hX hA hM
  have hG := aAG_of hA.1 (fun i e v he hv => (hA.2 i e v he hv).1)
  clear hA
  obtain ⟨v0, v1, v2, v3, v4, v5, rfl, g0, g1, g2, g3, g4, g5⟩ := fA_6 hG
  clear hG
  obtain ⟨x0, rfl, b0, d0⟩ := fG_ref (by decide) g0
  obtain ⟨x1, rfl, b1, d1⟩ := aG_int g1
  dsimp only at b1 d1
  obtain ⟨x2, rfl, b2, d2⟩ := aG_int g2
  dsimp only at b2 d2
  obtain ⟨x3, rfl, b3, d3⟩ := aG_int g3
  dsimp only at b3 d3
  obtain ⟨x4, rfl, b4, d4⟩ := aG_int g4
  dsimp only at b4 d4
  obtain ⟨x5, rfl, b5, d5⟩ := aG_int g5
  dsimp only at b5 d5
  obtain ⟨m1, m2, m3, m4⟩ := hM
  have f0 : fB K n p 97 [fR x0, fI x1, fI x2, fI x3] σ := by
    obtain ⟨w, e6, e7⟩ := m4 (1556, [0, 1, 2, 3]) (List.mem_of_getElem? (i := 0) rfl)
    obtain rfl : [fR x0, fI x1, fI x2, fI x3] = w := Option.some.inj (show some [fR x0, fI x1, fI x2, fI x3] = some w from e6)
    exact (fF_b (r := 1556) (by decide) rfl).mp e7
  have f1 : fB K n p 39 [fI x4, fI x5] σ := by
    obtain ⟨w, e6, e7⟩ := m4 (626, [4, 5]) (List.mem_of_getElem? (i := 1) rfl)
    obtain rfl : [fI x4, fI x5] = w := Option.some.inj (show some [fI x4, fI x5] = some w from e6)
    exact (fF_b (r := 626) (by decide) rfl).mp e7
  have f2 : fB K n p 59 [fI x3, fI x4] σ := by
    obtain ⟨w, e6, e7⟩ := m4 (946, [3, 4]) (List.mem_of_getElem? (i := 2) rfl)
    obtain rfl : [fI x3, fI x4] = w := Option.some.inj (show some [fI x3, fI x4] = some w from e6)
    exact (fF_b (r := 946) (by decide) rfl).mp e7
  have f3 : fB K n p 34 [fI x3] σ := by
    obtain ⟨w, e6, e7⟩ := m4 (545, [3]) (List.mem_of_getElem? (i := 3) rfl)
    obtain rfl : [fI x3] = w := Option.some.inj (show some [fI x3] = some w from e6)
    exact (fF_b (r := 545) (by decide) rfl).mp e7
  clear m1 m2 m3 m4
  obtain ⟨a9_0, lo9_0, hi9_0, r9_0, S0, C0, e9_0, T0, V0⟩ := (fL_o (by decide) (by decide)).mp f0
  cases e9_0
  obtain ⟨y0_0, e8_0, eS0, eC0, o0⟩ := T0
  cases e8_0
  subst eS0
  subst eC0
  obtain ⟨y1_0, y1_1, e9_1, h1⟩ := f1
  cases e9_1
  obtain ⟨y2_0, y2_1, e8_2, h2⟩ := fOr_l ((fE_o (by decide)).mp f2) (by rintro ⟨_, _, e9, -⟩; cases e9)
  cases e8_2
  obtain ⟨y3_0, e9_3, h3⟩ := f3
  cases e9_3
  have hmk : ((fq p).1 x3.toInt.toNat).toInt % 8 = 1 := by
    unfold fOw at h3
    rw [fNc] at h3
    rw [h3]
    omega
  have eo : fOne (fq p).2 x3.toInt = x4.toInt := h2.symm
  rw [fNc] at h1
  have q0 : fB K n (p) 81 [fR x0, fI x1, fI x2, fI x3] σ := by
    refine (fL_o (by decide) (by decide)).mpr ⟨x0, x1, x2, _, _, _, rfl, (Or.inl ⟨x3, rfl, rfl, rfl⟩), ?_⟩
    exact fCv_w V0 ((show _ = x1.toInt from rfl).trans (show x1.toInt = _ from rfl)) (by have e1 : fEc 97 = 0 := rfl; have e2 : fEc 81 = 0 := rfl; omega) (fun x h => Or.inl ⟨hmk, h⟩) (by
      intro y hy
      unfold fGn at hy
      rw [hmk] at hy
      rcases hy with ⟨-, y1, hy | ⟨-, hc1, hc2, hc3, hy⟩⟩ | hy | hy | hy
      · exact ⟨y1, Or.inl hy⟩
      · exfalso
        rw [eo, h1] at hc2
        omega
      · omega
      · omega
      · omega)
  exact ⟨p, fun _ => rfl, ⟨(fun q h => by cases h), fun q h => (by cases h), (fun f h => by cases h), (aAllc ⟨_, rfl, (fF_b (r := 1300) (by decide) rfl).mpr q0⟩ (fun f h => by cases h))⟩, [], List.mem_cons_self, fun f h => (by cases h)⟩
set_option maxRecDepth 8192 in
theorem rw_ruGR2EN {K : Nat → Nat} {n : Nat} : aGho (fF K n) fa_T K n (fJX K n) ag_ruGR2EN := by
  refine aGho_of ⟨rfl, rfl⟩ ?_
  intro p σ ρ hH hX hA hM
  have hG := aAG_of hA.1 (fun i e v he hv => (hA.2 i e v he hv).1)
  clear hA
  obtain ⟨v0, v1, v2, v3, v4, rfl, g0, g1, g2, g3, g4⟩ := fA_5 hG
  clear hG
  obtain ⟨x0, rfl, b0, d0⟩ := fG_ref (by decide) g0
  obtain ⟨x1, rfl, b1, d1⟩ := aG_int g1
  dsimp only at b1 d1
  obtain ⟨x2, rfl, b2, d2⟩ := aG_int g2
  dsimp only at b2 d2
  obtain ⟨x3, rfl, b3, d3⟩ := aG_int g3
  dsimp only at b3 d3
  obtain ⟨x4, rfl, b4, d4⟩ := aG_int g4
  dsimp only at b4 d4
  obtain ⟨m1, m2, m3, m4⟩ := hM
  have f0 : fB K n p 97 [fR x0, fI x1, fI x2, fI x3] σ := by
    obtain ⟨w, e6, e7⟩ := m4 (1556, [0, 1, 2, 3]) (List.mem_of_getElem? (i := 0) rfl)
    obtain rfl : [fR x0, fI x1, fI x2, fI x3] = w := Option.some.inj (show some [fR x0, fI x1, fI x2, fI x3] = some w from e6)
    exact (fF_b (r := 1556) (by decide) rfl).mp e7
  have f1 : fB K n p 59 [fI x3, fI x3, fI x4] σ := by
    obtain ⟨w, e6, e7⟩ := m4 (947, [3, 3, 4]) (List.mem_of_getElem? (i := 1) rfl)
    obtain rfl : [fI x3, fI x3, fI x4] = w := Option.some.inj (show some [fI x3, fI x3, fI x4] = some w from e6)
    exact (fF_b (r := 947) (by decide) rfl).mp e7
  have f2 : fB K n p 34 [fI x3] σ := by
    obtain ⟨w, e6, e7⟩ := m4 (545, [3]) (List.mem_of_getElem? (i := 2) rfl)
    obtain rfl : [fI x3] = w := Option.some.inj (show some [fI x3] = some w from e6)
    exact (fF_b (r := 545) (by decide) rfl).mp e7
  clear m1 m2 m3 m4
  obtain ⟨a9_0, lo9_0, hi9_0, r9_0, S0, C0, e9_0, T0, V0⟩ := (fL_o (by decide) (by decide)).mp f0
  cases e9_0
  obtain ⟨y0_0, e8_0, eS0, eC0, o0⟩ := T0
  cases e8_0
  subst eS0
  subst eC0
  obtain ⟨y1_0, y1_1, e8_1, h1⟩ := fOr_r ((fE_o (by decide)).mp f1) (by rintro ⟨_, _, e9, -⟩; cases e9)
  cases e8_1
  obtain ⟨y2_0, e9_2, h2⟩ := f2
  cases e9_2
  have hmk : ((fq p).1 x3.toInt.toNat).toInt % 8 = 1 := by
    unfold fOw at h2
    rw [fNc] at h2
    rw [h2]
    omega
  have q0 : fB K n (p) 81 [fR x0, fI x1, fI x2, fI x3] σ := by
    refine (fL_o (by decide) (by decide)).mpr ⟨x0, x1, x2, _, _, _, rfl, (Or.inl ⟨x3, rfl, rfl, rfl⟩), ?_⟩
    exact fCv_w V0 ((show _ = x1.toInt from rfl).trans (show x1.toInt = _ from rfl)) (by have e1 : fEc 97 = 0 := rfl; have e2 : fEc 81 = 0 := rfl; omega) (fun x h => Or.inl ⟨hmk, h⟩) (by
      intro y hy
      unfold fGn at hy
      rw [hmk] at hy
      rcases hy with ⟨-, y1, hy | ⟨-, hc1, hc2, hc3, hy⟩⟩ | hy | hy | hy
      · exact ⟨y1, Or.inl hy⟩
      · exfalso
        rw [h1] at hc3
        omega
      · omega
      · omega
      · omega)
  exact ⟨p, fun _ => rfl, ⟨(fun q h => by cases h), fun q h => (by cases h), (fun f h => by cases h), (aAllc ⟨_, rfl, (fF_b (r := 1300) (by decide) rfl).mpr q0⟩ (fun f h => by cases h))⟩, [], List.mem_cons_self, fun f h => (by cases h)⟩
set_option maxRecDepth 8192 in
theorem rw_ruSQD {K : Nat → Nat} {n : Nat} : aGho (fF K n) fa_T K n (fJX K n) ag_ruSQD := by
  refine aGho_of ⟨rfl, rfl⟩ ?_
  intro p σ ρ hH hX hA hM
  have hG := aAG_of hA.1 (fun i e v he hv => (hA.2 i e v he hv).1)
  clear hA
  obtain ⟨v0, v1, v2, v3, rfl, g0, g1, g2, g3⟩ := fA_4 hG
  clear hG
  obtain ⟨x0, rfl, b0, d0⟩ := aG_int g0
  dsimp only at b0 d0
  obtain ⟨x1, rfl, b1, d1⟩ := aG_int g1
  dsimp only at b1 d1
  obtain ⟨x2, rfl, b2, d2⟩ := aG_int g2
  dsimp only at b2 d2
  obtain ⟨x3, rfl, b3, d3⟩ := aG_int g3
  dsimp only at b3 d3
  obtain ⟨m1, m2, m3, m4⟩ := hM
  clear m1 m2 m3 m4
  have q0 : fB K n (p) 212 [fI x0, fI x1, fI x2, fI x3] σ := by
    exact (fP_o (by decide)).mpr (Or.inl ⟨x0, x1, x2, x3, rfl⟩)
  exact ⟨p, fun _ => rfl, ⟨(fun q h => by cases h), fun q h => (by cases h), (fun f h => by cases h), (aAllc ⟨_, rfl, (fF_b (r := 3396) (by decide) rfl).mpr q0⟩ (fun f h => by cases h))⟩, [], List.mem_cons_self, fun f h => (by cases h)⟩

