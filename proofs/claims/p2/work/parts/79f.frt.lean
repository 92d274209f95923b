/-! rules of the tree: their proofs -/
set_option maxRecDepth 8192 in
theorem rw_ruTG {K : Nat → Nat} {n : Nat} : aGho (fF K n) fa_T K n (fJX K n) ag_ruTG := by
  refine aGho_of ⟨rfl, rfl⟩ ?_
  intro p σ ρ hH hX hA hM
  have hG := aAG_of hA.1 (fun i e v he hv => (hA.2 i e v he hv).1)
  clear hA
  obtain ⟨v0, v1, v2, v3, rfl, g0, g1, g2, g3⟩ := fA_4 hG
  clear hG
  obtain ⟨x0, rfl, b0, d0⟩ := fG_ref (by decide) g0
  obtain ⟨x1, rfl, b1, d1⟩ := fG_ref (by decide) g1
  obtain ⟨x2, rfl, b2, d2⟩ := aG_int g2
  dsimp only at b2 d2
  obtain ⟨x3, rfl, b3, d3⟩ := aG_int g3
  dsimp only at b3 d3
  obtain ⟨m1, m2, m3, m4⟩ := hM
  obtain ⟨a0, c0, fs0, w0, e1, s0, t0, e4⟩ := m1 (0, 0, 1) (List.mem_of_getElem? (i := 0) rfl)
  obtain rfl : x0 = a0 := Sum.inl.inj (Option.some.inj (Sum.inr.inj (Sum.inr.inj (Option.some.inj (show some (fR x0) = some _ from e1)))))
  obtain rfl : fR x1 = w0 := Option.some.inj (show some (fR x1) = some w0 from e4)
  clear e1 e4
  obtain ⟨a1, c1, fs1, w1, e1, s1, t1, e4⟩ := m1 (0, 2, 2) (List.mem_of_getElem? (i := 1) rfl)
  obtain rfl : x0 = a1 := Sum.inl.inj (Option.some.inj (Sum.inr.inj (Sum.inr.inj (Option.some.inj (show some (fR x0) = some _ from e1)))))
  obtain rfl : fI x2 = w1 := Option.some.inj (show some (fI x2) = some w1 from e4)
  clear e1 e4
  obtain ⟨a2, c2, fs2, w2, e1, s2, t2, e4⟩ := m1 (0, 1, 3) (List.mem_of_getElem? (i := 2) rfl)
  obtain rfl : x0 = a2 := Sum.inl.inj (Option.some.inj (Sum.inr.inj (Sum.inr.inj (Option.some.inj (show some (fR x0) = some _ from e1)))))
  obtain rfl : fI x3 = w2 := Option.some.inj (show some (fI x3) = some w2 from e4)
  clear e1 e4
  have f0 : fB K n p 100 [fR x0] σ := by
    obtain ⟨w, e6, e7⟩ := m4 (1601, [0]) (List.mem_of_getElem? (i := 0) rfl)
    obtain rfl : [fR x0] = w := Option.some.inj (show some [fR x0] = some w from e6)
    exact (fF_b (r := 1601) (by decide) rfl).mp e7
  clear m1 m2 m3 m4
  obtain ⟨a, b, h, N, t, q, e, w, u0, u1, u2, h0, N0, H, A⟩ := f0
  cases e
  obtain rfl := fFi_r u0 s0 t0
  obtain rfl := fFi_i u2 s1 t1
  obtain rfl := fFi_i u1 s2 t2
  have q0 : fB K n (.inl q) 1 [fR x1] σ := by
    exact ⟨_, rfl, A, (fTk_good H).1, q, rfl⟩
  have q1 : fB K n (.inl q) 61 [fR x0, fI x2, fI x3] σ := by
    exact ⟨_, _, _, t, rfl, w, h0, N0, ⟨q, rfl⟩, H⟩
  exact ⟨.inl q, fun h => (by cases h), ⟨(fun q h => by cases h), fun q h => (by cases h), (fun f h => by cases h), (aAllc ⟨_, rfl, (fF_b (r := 17) (by decide) rfl).mpr q0⟩ (aAllc ⟨_, rfl, (fF_b (r := 979) (by decide) rfl).mpr q1⟩ (fun f h => by cases h)))⟩, [], List.mem_cons_self, fun f h => (by cases h)⟩
set_option maxRecDepth 8192 in
theorem rw_ruTGr {K : Nat → Nat} {n : Nat} : aGho (fF K n) fa_T K n (fJX K n) ag_ruTGr := by
  refine aGho_of ⟨rfl, rfl⟩ ?_
  intro p σ ρ hH hX hA hM
  have hG := aAG_of hA.1 (fun i e v he hv => (hA.2 i e v he hv).1)
  clear hA
  obtain ⟨v0, v1, v2, v3, rfl, g0, g1, g2, g3⟩ := fA_4 hG
  clear hG
  obtain ⟨x0, rfl, b0, d0⟩ := fG_ref (by decide) g0
  obtain ⟨x1, rfl, b1, d1⟩ := fG_ref (by decide) g1
  obtain ⟨x2, rfl, b2, d2⟩ := aG_int g2
  dsimp only at b2 d2
  obtain ⟨x3, rfl, b3, d3⟩ := aG_int g3
  dsimp only at b3 d3
  obtain ⟨m1, m2, m3, m4⟩ := hM
  obtain ⟨a0, c0, fs0, w0, e1, s0, t0, e4⟩ := m1 (0, 0, 1) (List.mem_of_getElem? (i := 0) rfl)
  obtain rfl : x0 = a0 := Sum.inl.inj (Option.some.inj (Sum.inr.inj (Sum.inr.inj (Option.some.inj (show some (fR x0) = some _ from e1)))))
  obtain rfl : fR x1 = w0 := Option.some.inj (show some (fR x1) = some w0 from e4)
  clear e1 e4
  obtain ⟨a1, c1, fs1, w1, e1, s1, t1, e4⟩ := m1 (0, 2, 2) (List.mem_of_getElem? (i := 1) rfl)
  obtain rfl : x0 = a1 := Sum.inl.inj (Option.some.inj (Sum.inr.inj (Sum.inr.inj (Option.some.inj (show some (fR x0) = some _ from e1)))))
  obtain rfl : fI x2 = w1 := Option.some.inj (show some (fI x2) = some w1 from e4)
  clear e1 e4
  obtain ⟨a2, c2, fs2, w2, e1, s2, t2, e4⟩ := m1 (0, 1, 3) (List.mem_of_getElem? (i := 2) rfl)
  obtain rfl : x0 = a2 := Sum.inl.inj (Option.some.inj (Sum.inr.inj (Sum.inr.inj (Option.some.inj (show some (fR x0) = some _ from e1)))))
  obtain rfl : fI x3 = w2 := Option.some.inj (show some (fI x3) = some w2 from e4)
  clear e1 e4
  have f0 : fB K n p 1 [fR x1] σ := by
    obtain ⟨w, e6, e7⟩ := m4 (17, [1]) (List.mem_of_getElem? (i := 0) rfl)
    obtain rfl : [fR x1] = w := Option.some.inj (show some [fR x1] = some w from e6)
    exact (fF_b (r := 17) (by decide) rfl).mp e7
  have f1 : fB K n p 61 [fR x0, fI x2, fI x3] σ := by
    obtain ⟨w, e6, e7⟩ := m4 (979, [0, 2, 3]) (List.mem_of_getElem? (i := 1) rfl)
    obtain rfl : [fR x0, fI x2, fI x3] = w := Option.some.inj (show some [fR x0, fI x2, fI x3] = some w from e6)
    exact (fF_b (r := 979) (by decide) rfl).mp e7
  clear m1 m2 m3 m4
  obtain ⟨a9, e9, A, hg9, q9, hq9⟩ := f0
  cases e9
  obtain ⟨a, h, N, t, e, w, h0, N0, ⟨q, hq⟩, H⟩ := f1
  cases e
  subst hq
  have q0 : fB K n (.inl q) 100 [fR x0] σ := by
    exact ⟨_, _, _, _, t, q, rfl, w, fFi_mk hH b0 d0 s0 t0, fFi_mk hH b0 d0 s2 t2, fFi_mk hH b0 d0 s1 t1, h0, N0, H, A⟩
  exact ⟨.inl q, fun _ => rfl, ⟨(fun q h => by cases h), fun q h => (by cases h), (fun f h => by cases h), (aAllc ⟨_, rfl, (fF_b (r := 1601) (by decide) rfl).mpr q0⟩ (fun f h => by cases h))⟩, [], List.mem_cons_self, fun f h => (by cases h)⟩
set_option maxRecDepth 8192 in
theorem rw_ruWP {K : Nat → Nat} {n : Nat} : aGho (fF K n) fa_T K n (fJX K n) ag_ruWP := by
  refine aGho_of ⟨rfl, rfl⟩ ?_
  intro p σ ρ hH hX hA hM
  have hG := aAG_of hA.1 (fun i e v he hv => (hA.2 i e v he hv).1)
  clear hA
  obtain ⟨v0, v1, v2, v3, rfl, g0, g1, g2, g3⟩ := fA_4 hG
  clear hG
  obtain ⟨x0, rfl, b0, d0⟩ := fG_ref (by decide) g0
  obtain ⟨x1, rfl, b1, d1⟩ := fG_ref (by decide) g1
  obtain ⟨x2, rfl, b2, d2⟩ := aG_int g2
  dsimp only at b2 d2
  obtain ⟨x3, rfl, b3, d3⟩ := aG_int g3
  dsimp only at b3 d3
  obtain ⟨m1, m2, m3, m4⟩ := hM
  obtain ⟨a0, c0, fs0, w0, e1, s0, t0, e4⟩ := m1 (0, 1, 3) (List.mem_of_getElem? (i := 0) rfl)
  obtain rfl : x0 = a0 := Sum.inl.inj (Option.some.inj (Sum.inr.inj (Sum.inr.inj (Option.some.inj (show some (fR x0) = some _ from e1)))))
  obtain rfl : fI x3 = w0 := Option.some.inj (show some (fI x3) = some w0 from e4)
  clear e1 e4
  have f0 : fB K n p 101 [fR x0, fR x1, fI x2] σ := by
    obtain ⟨w, e6, e7⟩ := m4 (1619, [0, 1, 2]) (List.mem_of_getElem? (i := 0) rfl)
    obtain rfl : [fR x0, fR x1, fI x2] = w := Option.some.inj (show some [fR x0, fR x1, fI x2] = some w from e6)
    exact (fF_b (r := 1619) (by decide) rfl).mp e7
  clear m1 m2 m3 m4
  obtain ⟨a, b, h, N, t, q, e, w, u1, h0, N0, H, A⟩ := f0
  cases e
  obtain rfl := fFi_i u1 s0 t0
  have q0 : fB K n (.inl q) 1 [fR x1] σ := by
    exact ⟨_, rfl, A, (fTk_good H).1, q, rfl⟩
  have q1 : fB K n (.inl q) 61 [fR x0, fI x2, fI x3] σ := by
    exact ⟨_, _, _, t, rfl, w, h0, N0, ⟨q, rfl⟩, H⟩
  exact ⟨.inl q, fun h => (by cases h), ⟨(fun q h => by cases h), fun q h => (by cases h), (fun f h => by cases h), (aAllc ⟨_, rfl, (fF_b (r := 17) (by decide) rfl).mpr q0⟩ (aAllc ⟨_, rfl, (fF_b (r := 979) (by decide) rfl).mpr q1⟩ (fun f h => by cases h)))⟩, [], List.mem_cons_self, fun f h => (by cases h)⟩
set_option maxRecDepth 8192 in
theorem rw_ruWPr {K : Nat → Nat} {n : Nat} : aGho (fF K n) fa_T K n (fJX K n) ag_ruWPr := by
  refine aGho_of ⟨rfl, rfl⟩ ?_
  intro p σ ρ hH hX hA hM
  have hG := aAG_of hA.1 (fun i e v he hv => (hA.2 i e v he hv).1)
  clear hA
  obtain ⟨v0, v1, v2, v3, rfl, g0, g1, g2, g3⟩ := fA_4 hG
  clear hG
  obtain ⟨x0, rfl, b0, d0⟩ := fG_ref (by decide) g0
  obtain ⟨x1, rfl, b1, d1⟩ := fG_ref (by decide) g1
  obtain ⟨x2, rfl, b2, d2⟩ := aG_int g2
  dsimp only at b2 d2
  obtain ⟨x3, rfl, b3, d3⟩ := aG_int g3
  dsimp only at b3 d3
  obtain ⟨m1, m2, m3, m4⟩ := hM
  obtain ⟨a0, c0, fs0, w0, e1, s0, t0, e4⟩ := m1 (0, 1, 3) (List.mem_of_getElem? (i := 0) rfl)
  obtain rfl : x0 = a0 := Sum.inl.inj (Option.some.inj (Sum.inr.inj (Sum.inr.inj (Option.some.inj (show some (fR x0) = some _ from e1)))))
  obtain rfl : fI x3 = w0 := Option.some.inj (show some (fI x3) = some w0 from e4)
  clear e1 e4
  have f0 : fB K n p 1 [fR x1] σ := by
    obtain ⟨w, e6, e7⟩ := m4 (17, [1]) (List.mem_of_getElem? (i := 0) rfl)
    obtain rfl : [fR x1] = w := Option.some.inj (show some [fR x1] = some w from e6)
    exact (fF_b (r := 17) (by decide) rfl).mp e7
  have f1 : fB K n p 61 [fR x0, fI x2, fI x3] σ := by
    obtain ⟨w, e6, e7⟩ := m4 (979, [0, 2, 3]) (List.mem_of_getElem? (i := 1) rfl)
    obtain rfl : [fR x0, fI x2, fI x3] = w := Option.some.inj (show some [fR x0, fI x2, fI x3] = some w from e6)
    exact (fF_b (r := 979) (by decide) rfl).mp e7
  clear m1 m2 m3 m4
  obtain ⟨a9, e9, A, hg9, q9, hq9⟩ := f0
  cases e9
  obtain ⟨a, h, N, t, e, w, h0, N0, ⟨q, hq⟩, H⟩ := f1
  cases e
  subst hq
  have q0 : fB K n (.inl q) 101 [fR x0, fR x1, fI x2] σ := by
    exact ⟨_, _, _, _, t, q, rfl, w, fFi_mk hH b0 d0 s0 t0, h0, N0, H, A⟩
  exact ⟨.inl q, fun _ => rfl, ⟨(fun q h => by cases h), fun q h => (by cases h), (fun f h => by cases h), (aAllc ⟨_, rfl, (fF_b (r := 1619) (by decide) rfl).mpr q0⟩ (fun f h => by cases h))⟩, [], List.mem_cons_self, fun f h => (by cases h)⟩
set_option maxRecDepth 8192 in
theorem rw_ruFL {K : Nat → Nat} {n : Nat} : aGho (fF K n) fa_T K n (fJX K n) ag_ruFL := by
  refine aGho_of ⟨rfl, rfl⟩ ?_
  intro p σ ρ hH hX hA hM
  have hG := aAG_of hA.1 (fun i e v he hv => (hA.2 i e v he hv).1)
  clear hA
  obtain ⟨v0, v1, v2, v3, rfl, g0, g1, g2, g3⟩ := fA_4 hG
  clear hG
  obtain ⟨x0, rfl, b0, d0⟩ := fG_ref (by decide) g0
  obtain ⟨x1, rfl, b1, d1⟩ := fG_ref (by decide) g1
  obtain ⟨x2, rfl, b2, d2⟩ := aG_int g2
  dsimp only at b2 d2
  obtain ⟨x3, rfl, b3, d3⟩ := aG_int g3
  dsimp only at b3 d3
  obtain ⟨m1, m2, m3, m4⟩ := hM
  have f0 : fB K n p 1 [fR x1] σ := by
    obtain ⟨w, e6, e7⟩ := m4 (17, [1]) (List.mem_of_getElem? (i := 0) rfl)
    obtain rfl : [fR x1] = w := Option.some.inj (show some [fR x1] = some w from e6)
    exact (fF_b (r := 17) (by decide) rfl).mp e7
  have f1 : fB K n p 61 [fR x0, fI x2, fI x3] σ := by
    obtain ⟨w, e6, e7⟩ := m4 (979, [0, 2, 3]) (List.mem_of_getElem? (i := 1) rfl)
    obtain rfl : [fR x0, fI x2, fI x3] = w := Option.some.inj (show some [fR x0, fI x2, fI x3] = some w from e6)
    exact (fF_b (r := 979) (by decide) rfl).mp e7
  clear m1 m2 m3 m4
  have q0 : fB K n (p) 1 [fR x1] σ := by
    exact f0
  have q1 : fB K n (p) 61 [fR x0, fI x2, fI x3] σ := by
    exact f1
  exact ⟨p, fun h => (by cases h), ⟨(fun q h => by cases h), fun q h => (by cases h), (fun f h => by cases h), (aAllc ⟨_, rfl, (fF_b (r := 17) (by decide) rfl).mpr q0⟩ (aAllc ⟨_, rfl, (fF_b (r := 979) (by decide) rfl).mpr q1⟩ (fun f h => by cases h)))⟩, [], List.mem_cons_self, fun f h => (by cases h)⟩
set_option maxRecDepth 8192 in
theorem rw_ruTVc {K : Nat → Nat} {n : Nat} : aGho (fF K n) fa_T K n (fJX K n) ag_ruTVc := by
  refine aGho_of ⟨rfl, rfl⟩ ?_
  intro p σ ρ hH hX hA hM
  have hG := aAG_of hA.1 (fun i e v he hv => (hA.2 i e v he hv).1)
  clear hA
  obtain ⟨v0, v1, v2, v3, v4, rfl, g0, g1, g2, g3, g4⟩ := fA_5 hG
  clear hG
  obtain ⟨x0, rfl, b0, d0⟩ := fG_ref (by decide) g0
  obtain ⟨x1, rfl, b1, d1⟩ := fG_ref (by decide) g1
  obtain ⟨x2, rfl, b2, d2⟩ := aG_int g2
  dsimp only at b2 d2
  obtain ⟨x3, rfl, b3, d3⟩ := aG_int g3
  dsimp only at b3 d3
  obtain ⟨x4, rfl, b4, d4⟩ := aG_int g4
  dsimp only at b4 d4
  obtain ⟨m1, m2, m3, m4⟩ := hM
  obtain ⟨a0, c0, fs0, w0, e1, s0, t0, e4⟩ := m1 (1, 5, 4) (List.mem_of_getElem? (i := 0) rfl)
  obtain rfl : x1 = a0 := Sum.inl.inj (Option.some.inj (Sum.inr.inj (Sum.inr.inj (Option.some.inj (show some (fR x1) = some _ from e1)))))
  obtain rfl : fI x4 = w0 := Option.some.inj (show some (fI x4) = some w0 from e4)
  clear e1 e4
  have f0 : fB K n p 1 [fR x1] σ := by
    obtain ⟨w, e6, e7⟩ := m4 (17, [1]) (List.mem_of_getElem? (i := 0) rfl)
    obtain rfl : [fR x1] = w := Option.some.inj (show some [fR x1] = some w from e6)
    exact (fF_b (r := 17) (by decide) rfl).mp e7
  have f1 : fB K n p 61 [fR x0, fI x2, fI x3] σ := by
    obtain ⟨w, e6, e7⟩ := m4 (979, [0, 2, 3]) (List.mem_of_getElem? (i := 1) rfl)
    obtain rfl : [fR x0, fI x2, fI x3] = w := Option.some.inj (show some [fR x0, fI x2, fI x3] = some w from e6)
    exact (fF_b (r := 979) (by decide) rfl).mp e7
  clear m1 m2 m3 m4
  obtain ⟨a9, e9, A, hg9, q9, hq9⟩ := f0
  cases e9
  obtain ⟨a, h, N, t, e, w, h0, N0, ⟨q, hq⟩, H⟩ := f1
  cases e
  subst hq
  have hb2 : q.2 5 = x4 := by
    obtain ⟨h1, h2, fs, r, g, h3, h4, h5, h6, h7, h8, y2, y3, y4, y5, -⟩ := A
    rw [s0] at h3
    cases h3
    rw [t0] at y5
    exact (Sum.inl.inj (Option.some.inj y5)).symm
  have hb := (fTk_good H).2
  have hl := fTk_le H
  rw [show (fq (.inl q : fP)).2 5 = x4 from hb2] at hb
  have r0 : 0 ≤ (-1 * x4.toInt + (1 * x2.toInt + 0)) + 999 := by
    omega
  have r1 : 0 ≤ (1 * x4.toInt + 0) + 0 := by
    omega
  have r2 : 0 ≤ (1 * x3.toInt + (-1 * x2.toInt + 0)) + 0 := by
    omega
  exact ⟨.inl q, fun _ => rfl, ⟨(fun q h => by cases h), fun q h => (by cases h), (aAllc ⟨_, rfl, r0⟩ (aAllc ⟨_, rfl, r1⟩ (aAllc ⟨_, rfl, r2⟩ (fun f h => by cases h)))), (fun f h => by cases h)⟩, [], List.mem_cons_self, fun f h => (by cases h)⟩
set_option maxRecDepth 8192 in
theorem rw_ruUP {K : Nat → Nat} {n : Nat} : aGho (fF K n) fa_T K n (fJX K n) ag_ruUP := by
  refine aGho_of ⟨rfl, rfl⟩ ?_
  intro p σ ρ hH hX hA hM
  have hG := aAG_of hA.1 (fun i e v he hv => (hA.2 i e v he hv).1)
  clear hA
  obtain ⟨v0, v1, v2, v3, v4, v5, v6, v7, rfl, g0, g1, g2, g3, g4, g5, g6, g7⟩ := fA_8 hG
  clear hG
  obtain ⟨x0, rfl, b0, d0⟩ := fG_ref (by decide) g0
  obtain ⟨x1, rfl, b1, d1⟩ := fG_ref (by decide) g1
  obtain ⟨x2, rfl, b2, d2⟩ := aG_int g2
  dsimp only at b2 d2
  obtain ⟨x3, rfl, b3, d3⟩ := aG_int g3
  dsimp only at b3 d3
  obtain ⟨x4, rfl, b4, d4⟩ := aG_int g4
  dsimp only at b4 d4
  obtain ⟨x5, rfl⟩ := aG_lng g5
  obtain ⟨x6, rfl, b6, d6⟩ := fG_ref (by decide) g6
  obtain ⟨x7, rfl, b7, d7⟩ := fG_ref (by decide) g7
  obtain ⟨m1, m2, m3, m4⟩ := hM
  obtain ⟨a0, c0, fs0, w0, e1, s0, t0, e4⟩ := m1 (0, 4, 6) (List.mem_of_getElem? (i := 0) rfl)
  obtain rfl : x0 = a0 := Sum.inl.inj (Option.some.inj (Sum.inr.inj (Sum.inr.inj (Option.some.inj (show some (fR x0) = some _ from e1)))))
  obtain rfl : fR x6 = w0 := Option.some.inj (show some (fR x6) = some w0 from e4)
  clear e1 e4
  obtain ⟨a1, c1, fs1, w1, e1, s1, t1, e4⟩ := m1 (0, 7, 7) (List.mem_of_getElem? (i := 1) rfl)
  obtain rfl : x0 = a1 := Sum.inl.inj (Option.some.inj (Sum.inr.inj (Sum.inr.inj (Option.some.inj (show some (fR x0) = some _ from e1)))))
  obtain rfl : fR x7 = w1 := Option.some.inj (show some (fR x7) = some w1 from e4)
  clear e1 e4
  obtain ⟨a, mc0, ty0, gc0, ic0, e1, sc0, jc0, e4, e5⟩ := m2 (6, ([(2, 1)], 0), 4) (List.mem_of_getElem? (i := 0) rfl)
  obtain rfl : x6 = a := Sum.inl.inj (Option.some.inj (Sum.inr.inj (Sum.inr.inj (Option.some.inj (show some (fR x6) = some _ from e1)))))
  obtain ⟨gc0, rfl⟩ : ∃ g, gc0 = .inl g := by
    rcases gc0 with g | g
    · exact ⟨g, rfl⟩
    · exact absurd (show some (fI x4) = some (.inr (.inl (g ic0))) from e5) (fun h => by cases h)
  have sc0 : σ x6 = .inl (ty0, mc0, .inl gc0) := sc0
  have ec0 : x4 = gc0 ic0 := Sum.inl.inj (Option.some.inj (show some (fI x4) = some _ from e5))
  have kc0 : (ic0 : Int) = (1 * x2.toInt + 0) + 0 := by
    obtain ⟨z, e6, e7⟩ := e4
    obtain rfl : (1 * x2.toInt + 0) = z := Option.some.inj (show some (1 * x2.toInt + 0) = some z from e6)
    exact e7
  clear e1 e4 e5
  obtain rfl : ic0 = x2.toInt.toNat := by omega
  obtain ⟨a, mc1, ty1, gc1, ic1, e1, sc1, jc1, e4, e5⟩ := m2 (7, ([(2, 1)], 0), 5) (List.mem_of_getElem? (i := 1) rfl)
  obtain rfl : x7 = a := Sum.inl.inj (Option.some.inj (Sum.inr.inj (Sum.inr.inj (Option.some.inj (show some (fR x7) = some _ from e1)))))
  obtain ⟨gc1, rfl⟩ : ∃ g, gc1 = .inr g := by
    rcases gc1 with g | g
    · exact absurd (show some ((.inr (.inl x5) : jv)) = some (.inl (g ic1)) from e5) (fun h => by cases h)
    · exact ⟨g, rfl⟩
  have sc1 : σ x7 = .inl (ty1, mc1, .inr (.inl gc1)) := sc1
  have ec1 : x5 = gc1 ic1 := Sum.inl.inj (Sum.inr.inj (Option.some.inj (show some ((.inr (.inl x5) : jv)) = some _ from e5)))
  have kc1 : (ic1 : Int) = (1 * x2.toInt + 0) + 0 := by
    obtain ⟨z, e6, e7⟩ := e4
    obtain rfl : (1 * x2.toInt + 0) = z := Option.some.inj (show some (1 * x2.toInt + 0) = some z from e6)
    exact e7
  clear e1 e4 e5
  obtain rfl : ic1 = x2.toInt.toNat := by omega
  have l0 : 0 ≤ (1 * x2.toInt + 0) + -1 := by
    obtain ⟨z, e6, e7⟩ := m3 ([(2, 1)], -1) (List.mem_of_getElem? (i := 0) rfl)
    obtain rfl : (1 * x2.toInt + 0) = z := Option.some.inj (show some (1 * x2.toInt + 0) = some z from e6)
    exact e7
  have f0 : fB K n p 1 [fR x1] σ := by
    obtain ⟨w, e6, e7⟩ := m4 (17, [1]) (List.mem_of_getElem? (i := 0) rfl)
    obtain rfl : [fR x1] = w := Option.some.inj (show some [fR x1] = some w from e6)
    exact (fF_b (r := 17) (by decide) rfl).mp e7
  have f1 : fB K n p 61 [fR x0, fI x2, fI x3] σ := by
    obtain ⟨w, e6, e7⟩ := m4 (979, [0, 2, 3]) (List.mem_of_getElem? (i := 1) rfl)
    obtain rfl : [fR x0, fI x2, fI x3] = w := Option.some.inj (show some [fR x0, fI x2, fI x3] = some w from e6)
    exact (fF_b (r := 979) (by decide) rfl).mp e7
  clear m1 m2 m3 m4
  obtain ⟨a9, e9, A, hg9, q9, hq9⟩ := f0
  cases e9
  obtain ⟨a, h, N, t, e, w, h0, N0, ⟨q, hq⟩, H⟩ := f1
  cases e
  subst hq
  obtain rfl := fRo_c w.2.1 s0 t0 sc0
  obtain rfl := fRl_c w.2.2.2.2 s1 t1 sc1
  obtain ⟨j, qq, j1, j2, j3, j4, j5, j6⟩ := fTk_up H (show 1 ≤ x2.toInt.toNat by omega)
  have q0 : fB K n (fSh (.inl qq) [fI x4]) 1 [fR x1] σ := by
    rw [ec0]
    have hj5 : q = fPl qq (t.2.1 x2.toInt.toNat) := j5
    have A2 : fAt K n σ x1 (fPl qq (t.2.1 x2.toInt.toNat)).1 (fPl qq (t.2.1 x2.toInt.toNat)).2 := by rw [← hj5]; exact A
    exact ⟨_, rfl, A2, by have := hg9; rw [show fq (.inl q : fP) = fPl qq (t.2.1 x2.toInt.toNat) from hj5] at this; exact this, _, rfl⟩
  have q1 : fB K n (.inl qq) 4 [fI x4, (.inr (.inl x5) : jv)] σ := by
    rw [ec0, ec1]
    exact ⟨_, _, rfl, j6.1, j6.2, (fTk_good j3).1, _, rfl⟩
  have q2 : fB K n (.inl qq) 3 [fI x4] σ := by
    rw [ec0]
    exact ⟨_, rfl, j4⟩
  have q3 : fB K n (.inl qq) 62 [fR x0, fI x2, fI x3] σ := by
    refine ⟨_, _, _, t, rfl, w, by omega, ?_, ⟨qq, rfl⟩, by omega, by omega, ?_⟩
    · have := fTk_le H; omega
    · rw [show (t.1 x2.toInt.toNat).toInt.toNat = j by omega]; exact j3
  exact ⟨.inl qq, fun h => (by cases h), ⟨(fun q h => by cases h), fun q h => (by cases h), (fun f h => by cases h), (aAllc ⟨_, rfl, (fF_g (r := 17) (by decide)).mpr q0⟩ (aAllc ⟨_, rfl, (fF_b (r := 66) (by decide) rfl).mpr q1⟩ (aAllc ⟨_, rfl, (fF_b (r := 49) (by decide) rfl).mpr q2⟩ (aAllc ⟨_, rfl, (fF_b (r := 995) (by decide) rfl).mpr q3⟩ (fun f h => by cases h)))))⟩, [], List.mem_cons_self, fun f h => (by cases h)⟩
set_option maxRecDepth 8192 in
theorem rw_ruUP2 {K : Nat → Nat} {n : Nat} : aGho (fF K n) fa_T K n (fJX K n) ag_ruUP2 := by
  refine aGho_of ⟨rfl, rfl⟩ ?_
  intro p σ ρ hH hX hA hM
  have hG := aAG_of hA.1 (fun i e v he hv => (hA.2 i e v he hv).1)
  clear hA
  obtain ⟨v0, v1, v2, v3, v4, rfl, g0, g1, g2, g3, g4⟩ := fA_5 hG
  clear hG
  obtain ⟨x0, rfl, b0, d0⟩ := fG_ref (by decide) g0
  obtain ⟨x1, rfl, b1, d1⟩ := aG_int g1
  dsimp only at b1 d1
  obtain ⟨x2, rfl, b2, d2⟩ := aG_int g2
  dsimp only at b2 d2
  obtain ⟨x3, rfl, b3, d3⟩ := aG_int g3
  dsimp only at b3 d3
  obtain ⟨x4, rfl, b4, d4⟩ := fG_ref (by decide) g4
  obtain ⟨m1, m2, m3, m4⟩ := hM
  obtain ⟨a0, c0, fs0, w0, e1, s0, t0, e4⟩ := m1 (0, 3, 4) (List.mem_of_getElem? (i := 0) rfl)
  obtain rfl : x0 = a0 := Sum.inl.inj (Option.some.inj (Sum.inr.inj (Sum.inr.inj (Option.some.inj (show some (fR x0) = some _ from e1)))))
  obtain rfl : fR x4 = w0 := Option.some.inj (show some (fR x4) = some w0 from e4)
  clear e1 e4
  obtain ⟨a, mc0, ty0, gc0, ic0, e1, sc0, jc0, e4, e5⟩ := m2 (4, ([(1, 1)], 0), 3) (List.mem_of_getElem? (i := 0) rfl)
  obtain rfl : x4 = a := Sum.inl.inj (Option.some.inj (Sum.inr.inj (Sum.inr.inj (Option.some.inj (show some (fR x4) = some _ from e1)))))
  obtain ⟨gc0, rfl⟩ : ∃ g, gc0 = .inl g := by
    rcases gc0 with g | g
    · exact ⟨g, rfl⟩
    · exact absurd (show some (fI x3) = some (.inr (.inl (g ic0))) from e5) (fun h => by cases h)
  have sc0 : σ x4 = .inl (ty0, mc0, .inl gc0) := sc0
  have ec0 : x3 = gc0 ic0 := Sum.inl.inj (Option.some.inj (show some (fI x3) = some _ from e5))
  have kc0 : (ic0 : Int) = (1 * x1.toInt + 0) + 0 := by
    obtain ⟨z, e6, e7⟩ := e4
    obtain rfl : (1 * x1.toInt + 0) = z := Option.some.inj (show some (1 * x1.toInt + 0) = some z from e6)
    exact e7
  clear e1 e4 e5
  obtain rfl : ic0 = x1.toInt.toNat := by omega
  have f0 : fB K n p 62 [fR x0, fI x1, fI x2] σ := by
    obtain ⟨w, e6, e7⟩ := m4 (995, [0, 1, 2]) (List.mem_of_getElem? (i := 0) rfl)
    obtain rfl : [fR x0, fI x1, fI x2] = w := Option.some.inj (show some [fR x0, fI x1, fI x2] = some w from e6)
    exact (fF_b (r := 995) (by decide) rfl).mp e7
  clear m1 m2 m3 m4
  obtain ⟨a, h, N, t, e, w, h1, hN, hq, l1, l2, H⟩ := f0
  cases e
  obtain rfl := fRo_c w.1 s0 t0 sc0
  have ez : x3.toInt = (t.1 x1.toInt.toNat).toInt := by rw [ec0]
  have r0 : 0 ≤ (1 * x1.toInt + (-1 * x3.toInt + 0)) + -1 := by
    omega
  have q0 : fB K n (p) 61 [fR x0, fI x3, fI x2] σ := by
    rw [ec0]
    exact ⟨_, _, _, t, rfl, w, by omega, by omega, hq, H⟩
  exact ⟨p, fun _ => rfl, ⟨(fun q h => by cases h), fun q h => (by cases h), (aAllc ⟨_, rfl, r0⟩ (fun f h => by cases h)), (aAllc ⟨_, rfl, (fF_b (r := 979) (by decide) rfl).mpr q0⟩ (fun f h => by cases h))⟩, [], List.mem_cons_self, fun f h => (by cases h)⟩
set_option maxRecDepth 8192 in
theorem rw_ruLMc {K : Nat → Nat} {n : Nat} : aGho (fF K n) fa_T K n (fJX K n) ag_ruLMc := by
  refine aGho_of ⟨rfl, rfl⟩ ?_
  intro p σ ρ hH hX hA hM
  have hG := aAG_of hA.1 (fun i e v he hv => (hA.2 i e v he hv).1)
  clear hA
  obtain ⟨v0, v1, v2, v3, v4, v5, rfl, g0, g1, g2, g3, g4, g5⟩ := fA_6 hG
  clear hG
  obtain ⟨x0, rfl, b0, d0⟩ := fG_ref (by decide) g0
  obtain ⟨x1, rfl, b1, d1⟩ := aG_int g1
  dsimp only at b1 d1
  obtain ⟨x2, rfl, b2, d2⟩ := aG_int g2
  dsimp only at b2 d2
  obtain ⟨x3, rfl, b3, d3⟩ := aG_int g3
  dsimp only at b3 d3
  obtain ⟨x4, rfl, b4, d4⟩ := aG_int g4
  dsimp only at b4 d4
  obtain ⟨x5, rfl, b5, d5⟩ := fG_ref (by decide) g5
  obtain ⟨m1, m2, m3, m4⟩ := hM
  obtain ⟨a0, c0, fs0, w0, e1, s0, t0, e4⟩ := m1 (0, 1, 2) (List.mem_of_getElem? (i := 0) rfl)
  obtain rfl : x0 = a0 := Sum.inl.inj (Option.some.inj (Sum.inr.inj (Sum.inr.inj (Option.some.inj (show some (fR x0) = some _ from e1)))))
  obtain rfl : fI x2 = w0 := Option.some.inj (show some (fI x2) = some w0 from e4)
  clear e1 e4
  obtain ⟨a1, c1, fs1, w1, e1, s1, t1, e4⟩ := m1 (0, 4, 5) (List.mem_of_getElem? (i := 1) rfl)
  obtain rfl : x0 = a1 := Sum.inl.inj (Option.some.inj (Sum.inr.inj (Sum.inr.inj (Option.some.inj (show some (fR x0) = some _ from e1)))))
  obtain rfl : fR x5 = w1 := Option.some.inj (show some (fR x5) = some w1 from e4)
  clear e1 e4
  obtain ⟨a, mc0, ty0, gc0, ic0, e1, sc0, jc0, e4, e5⟩ := m2 (5, ([(3, 1)], 0), 4) (List.mem_of_getElem? (i := 0) rfl)
  obtain rfl : x5 = a := Sum.inl.inj (Option.some.inj (Sum.inr.inj (Sum.inr.inj (Option.some.inj (show some (fR x5) = some _ from e1)))))
  obtain ⟨gc0, rfl⟩ : ∃ g, gc0 = .inl g := by
    rcases gc0 with g | g
    · exact ⟨g, rfl⟩
    · exact absurd (show some (fI x4) = some (.inr (.inl (g ic0))) from e5) (fun h => by cases h)
  have sc0 : σ x5 = .inl (ty0, mc0, .inl gc0) := sc0
  have ec0 : x4 = gc0 ic0 := Sum.inl.inj (Option.some.inj (show some (fI x4) = some _ from e5))
  have kc0 : (ic0 : Int) = (1 * x3.toInt + 0) + 0 := by
    obtain ⟨z, e6, e7⟩ := e4
    obtain rfl : (1 * x3.toInt + 0) = z := Option.some.inj (show some (1 * x3.toInt + 0) = some z from e6)
    exact e7
  clear e1 e4 e5
  obtain rfl : ic0 = x3.toInt.toNat := by omega
  have f0 : fB K n p 61 [fR x0, fI x1, fI x2] σ := by
    obtain ⟨w, e6, e7⟩ := m4 (979, [0, 1, 2]) (List.mem_of_getElem? (i := 0) rfl)
    obtain rfl : [fR x0, fI x1, fI x2] = w := Option.some.inj (show some [fR x0, fI x1, fI x2] = some w from e6)
    exact (fF_b (r := 979) (by decide) rfl).mp e7
  have f1 : fB K n p 104 [fR x0, fI x3, fI x1] σ := by
    obtain ⟨w, e6, e7⟩ := m4 (1667, [0, 3, 1]) (List.mem_of_getElem? (i := 1) rfl)
    obtain rfl : [fR x0, fI x3, fI x1] = w := Option.some.inj (show some [fR x0, fI x3, fI x1] = some w from e6)
    exact (fF_b (r := 1667) (by decide) rfl).mp e7
  clear m1 m2 m3 m4
  obtain ⟨a, h, N, t, e, w, h0, N0, ⟨q, hq⟩, H⟩ := f0
  cases e
  subst hq
  obtain ⟨a4, c4, h4, N4, pa4, e4, w4, u4, l4a, l4b, p4⟩ := f1
  cases e4
  obtain rfl := fRo_c w.2.1 s1 t1 sc0
  obtain rfl := fFi_i u4 s0 t0
  obtain rfl := fRo_u w4 w.1
  have q0 : fB K n (.inl q) 3 [fI x4] σ := by
    have hm := fTk_mv H (c := x3.toInt.toNat) (by omega) (by omega) (by rw [p4]; omega)
    rw [ec0]
    exact ⟨_, rfl, hm⟩
  exact ⟨.inl q, fun _ => rfl, ⟨(fun q h => by cases h), fun q h => (by cases h), (fun f h => by cases h), (aAllc ⟨_, rfl, (fF_b (r := 49) (by decide) rfl).mpr q0⟩ (fun f h => by cases h))⟩, [], List.mem_cons_self, fun f h => (by cases h)⟩
set_option maxRecDepth 8192 in
theorem rw_ruCMh {K : Nat → Nat} {n : Nat} : aGho (fF K n) fa_T K n (fJX K n) ag_ruCMh := by
  refine aGho_of ⟨rfl, rfl⟩ ?_
  intro p σ ρ hH hX hA hM
  have hG := aAG_of hA.1 (fun i e v he hv => (hA.2 i e v he hv).1)
  clear hA
  obtain ⟨v0, v1, v2, v3, v4, rfl, g0, g1, g2, g3, g4⟩ := fA_5 hG
  clear hG
  obtain ⟨x0, rfl, b0, d0⟩ := fG_ref (by decide) g0
  obtain ⟨x1, rfl, b1, d1⟩ := aG_int g1
  dsimp only at b1 d1
  obtain ⟨x2, rfl, b2, d2⟩ := aG_int g2
  dsimp only at b2 d2
  obtain ⟨x3, rfl, b3, d3⟩ := aG_int g3
  dsimp only at b3 d3
  obtain ⟨x4, rfl, b4, d4⟩ := fG_ref (by decide) g4
  obtain ⟨m1, m2, m3, m4⟩ := hM
  obtain ⟨a0, c0, fs0, w0, e1, s0, t0, e4⟩ := m1 (0, 4, 4) (List.mem_of_getElem? (i := 0) rfl)
  obtain rfl : x0 = a0 := Sum.inl.inj (Option.some.inj (Sum.inr.inj (Sum.inr.inj (Option.some.inj (show some (fR x0) = some _ from e1)))))
  obtain rfl : fR x4 = w0 := Option.some.inj (show some (fR x4) = some w0 from e4)
  clear e1 e4
  obtain ⟨a, mc0, ty0, gc0, ic0, e1, sc0, jc0, e4, e5⟩ := m2 (4, ([(2, 1)], 0), 3) (List.mem_of_getElem? (i := 0) rfl)
  obtain rfl : x4 = a := Sum.inl.inj (Option.some.inj (Sum.inr.inj (Sum.inr.inj (Option.some.inj (show some (fR x4) = some _ from e1)))))
  obtain ⟨gc0, rfl⟩ : ∃ g, gc0 = .inl g := by
    rcases gc0 with g | g
    · exact ⟨g, rfl⟩
    · exact absurd (show some (fI x3) = some (.inr (.inl (g ic0))) from e5) (fun h => by cases h)
  have sc0 : σ x4 = .inl (ty0, mc0, .inl gc0) := sc0
  have ec0 : x3 = gc0 ic0 := Sum.inl.inj (Option.some.inj (show some (fI x3) = some _ from e5))
  have kc0 : (ic0 : Int) = (1 * x2.toInt + 0) + 0 := by
    obtain ⟨z, e6, e7⟩ := e4
    obtain rfl : (1 * x2.toInt + 0) = z := Option.some.inj (show some (1 * x2.toInt + 0) = some z from e6)
    exact e7
  clear e1 e4 e5
  obtain rfl : ic0 = x2.toInt.toNat := by omega
  have f0 : fB K n p 104 [fR x0, fI x2, fI x1] σ := by
    obtain ⟨w, e6, e7⟩ := m4 (1667, [0, 2, 1]) (List.mem_of_getElem? (i := 0) rfl)
    obtain rfl : [fR x0, fI x2, fI x1] = w := Option.some.inj (show some [fR x0, fI x2, fI x1] = some w from e6)
    exact (fF_b (r := 1667) (by decide) rfl).mp e7
  clear m1 m2 m3 m4
  obtain ⟨a4, c4, h4, N4, pa4, e4, w4, u4, l4a, l4b, p4⟩ := f0
  cases e4
  obtain ⟨mvg, w5, e5⟩ := fRo_mk hH b0 d0 s0 t0 b4 d4 (q := ((0, 32767), [])) rfl
  rw [sc0] at e5
  cases e5
  have q0 : fB K n (p) 105 [fR x0, fI x2, fI x1, fI x3] σ := by
    exact ⟨_, _, _, _, _, pa4, gc0, rfl, w4, u4, w5, l4a, l4b, p4, ec0.symm⟩
  exact ⟨p, fun _ => rfl, ⟨(fun q h => by cases h), fun q h => (by cases h), (fun f h => by cases h), (aAllc ⟨_, rfl, (fF_b (r := 1684) (by decide) rfl).mpr q0⟩ (fun f h => by cases h))⟩, [], List.mem_cons_self, fun f h => (by cases h)⟩
set_option maxRecDepth 8192 in
theorem rw_ruPD {K : Nat → Nat} {n : Nat} : aGho (fF K n) fa_T K n (fJX K n) ag_ruPD := by
  refine aGho_of ⟨rfl, rfl⟩ ?_
  intro p σ ρ hH hX hA hM
  have hG := aAG_of hA.1 (fun i e v he hv => (hA.2 i e v he hv).1)
  clear hA
  obtain ⟨v0, v1, v2, v3, v4, v5, v6, rfl, g0, g1, g2, g3, g4, g5, g6⟩ := fA_7 hG
  clear hG
  obtain ⟨x0, rfl, b0, d0⟩ := fG_ref (by decide) g0
  obtain ⟨x1, rfl, b1, d1⟩ := aG_int g1
  dsimp only at b1 d1
  obtain ⟨x2, rfl, b2, d2⟩ := aG_int g2
  dsimp only at b2 d2
  obtain ⟨x3, rfl, b3, d3⟩ := aG_int g3
  dsimp only at b3 d3
  obtain ⟨x4, rfl, b4, d4⟩ := aG_int g4
  dsimp only at b4 d4
  obtain ⟨x5, rfl⟩ := aG_lng g5
  obtain ⟨x6, rfl, b6, d6⟩ := fG_ref (by decide) g6
  obtain ⟨m1, m2, m3, m4⟩ := hM
  obtain ⟨a0, c0, fs0, w0, e1, s0, t0, e4⟩ := m1 (0, 7, 6) (List.mem_of_getElem? (i := 0) rfl)
  obtain rfl : x0 = a0 := Sum.inl.inj (Option.some.inj (Sum.inr.inj (Sum.inr.inj (Option.some.inj (show some (fR x0) = some _ from e1)))))
  obtain rfl : fR x6 = w0 := Option.some.inj (show some (fR x6) = some w0 from e4)
  clear e1 e4
  obtain ⟨a1, c1, fs1, w1, e1, s1, t1, e4⟩ := m1 (0, 1, 2) (List.mem_of_getElem? (i := 1) rfl)
  obtain rfl : x0 = a1 := Sum.inl.inj (Option.some.inj (Sum.inr.inj (Sum.inr.inj (Option.some.inj (show some (fR x0) = some _ from e1)))))
  obtain rfl : fI x2 = w1 := Option.some.inj (show some (fI x2) = some w1 from e4)
  clear e1 e4
  have f0 : fB K n p 4 [fI x4, (.inr (.inl x5) : jv)] σ := by
    obtain ⟨w, e6, e7⟩ := m4 (66, [4, 5]) (List.mem_of_getElem? (i := 0) rfl)
    obtain rfl : [fI x4, (.inr (.inl x5) : jv)] = w := Option.some.inj (show some [fI x4, (.inr (.inl x5) : jv)] = some w from e6)
    exact (fF_b (r := 66) (by decide) rfl).mp e7
  have f1 : fB K n p 3 [fI x4] σ := by
    obtain ⟨w, e6, e7⟩ := m4 (49, [4]) (List.mem_of_getElem? (i := 1) rfl)
    obtain rfl : [fI x4] = w := Option.some.inj (show some [fI x4] = some w from e6)
    exact (fF_b (r := 49) (by decide) rfl).mp e7
  have f2 : fB K n p 61 [fR x0, fI x1, fI x2] σ := by
    obtain ⟨w, e6, e7⟩ := m4 (979, [0, 1, 2]) (List.mem_of_getElem? (i := 2) rfl)
    obtain rfl : [fR x0, fI x1, fI x2] = w := Option.some.inj (show some [fR x0, fI x1, fI x2] = some w from e6)
    exact (fF_b (r := 979) (by decide) rfl).mp e7
  have f3 : fB K n p 105 [fR x0, fI x3, fI x1, fI x4] σ := by
    obtain ⟨w, e6, e7⟩ := m4 (1684, [0, 3, 1, 4]) (List.mem_of_getElem? (i := 3) rfl)
    obtain rfl : [fR x0, fI x3, fI x1, fI x4] = w := Option.some.inj (show some [fR x0, fI x3, fI x1, fI x4] = some w from e6)
    exact (fF_b (r := 1684) (by decide) rfl).mp e7
  clear m1 m2 m3 m4
  obtain ⟨mu, u, eu, hu1, hu2, -⟩ := f0
  cases eu
  obtain ⟨a, h, N, t, e, w, h0, N0, ⟨q, hq⟩, H⟩ := f2
  cases e
  subst hq
  obtain ⟨a5, c5, h5, m5, N5, pa5, mv5, e5, w5, u5, z5, l5a, l5b, p5, k5⟩ := f3
  cases e5
  obtain rfl := fFi_i u5 s1 t1
  obtain rfl := fRo_u w5 w.1
  obtain rfl := fRo_u z5 w.2.1
  have q0 : fB K n (fSh (.inl q) [fI x4]) 61 [fR x0, fI x3, fI x2] (jup σ x6 (jstl (σ x6) x3.toNatClampNeg x5)) := by
    have hk : ∀ k, k = 38 ∨ k = 39 ∨ k = 40 ∨ k = 41 → ¬ K x6 = k := fun k hk e => by rw [d6] at e; omega
    have hg : ¬ K x6 = 25 := by rw [d6]; decide
    refine ⟨_, _, _, (t.1, t.2.1, t.2.2.1, t.2.2.2.1, vp_updL t.2.2.2.2 x3.toInt.toNat x5), rfl, ⟨fRo_ne w.1 hg (hk _ (by simp)), fRo_ne w.2.1 hg (hk _ (by simp)), fRo_ne w.2.2.1 hg (hk _ (by simp)), fRo_ne w.2.2.2.1 hg (hk _ (by simp)), fRl_st w.2.2.2.2 s0 t0⟩, by omega, N0, ⟨_, rfl⟩, ?_⟩
    have hd := fTk_dn H (c := x3.toInt.toNat) (by omega) (by omega) (by rw [p5]; omega) (u := x5) (by rw [k5]; exact ⟨hu1, hu2⟩)
    rw [k5] at hd
    exact hd
  exact ⟨.inl q, fun _ => rfl, ⟨(fun q h => by cases h), fun q h => (by cases h), (fun f h => by cases h), (aAllc ⟨_, rfl, fF_pl (r := 979) (by decide) (by decide) (Nat.le_of_ble_eq_true rfl) q0⟩ (fun f h => by cases h))⟩, [], List.mem_cons_self, fun f h => (by cases h)⟩
set_option maxRecDepth 8192 in
theorem rw_ruCL0 {K : Nat → Nat} {n : Nat} : aGho (fF K n) fa_T K n (fJX K n) ag_ruCL0 := by
  refine aGho_of ⟨rfl, rfl⟩ ?_
  intro p σ ρ hH hX hA hM
  have hG := aAG_of hA.1 (fun i e v he hv => (hA.2 i e v he hv).1)
  clear hA
  obtain ⟨v0, v1, v2, v3, v4, v5, v6, v7, v8, rfl, g0, g1, g2, g3, g4, g5, g6, g7, g8⟩ := fA_9 hG
  clear hG
  obtain ⟨x0, rfl, b0, d0⟩ := fG_ref (by decide) g0
  obtain ⟨x1, rfl, b1, d1⟩ := aG_int g1
  dsimp only at b1 d1
  obtain ⟨x2, rfl, b2, d2⟩ := aG_int g2
  dsimp only at b2 d2
  obtain ⟨x3, rfl, b3, d3⟩ := aG_int g3
  dsimp only at b3 d3
  obtain ⟨x4, rfl, b4, d4⟩ := aG_int g4
  dsimp only at b4 d4
  obtain ⟨x5, rfl, b5, d5⟩ := fG_ref (by decide) g5
  obtain ⟨x6, rfl, b6, d6⟩ := aG_int g6
  dsimp only at b6 d6
  obtain ⟨x7, rfl, b7, d7⟩ := fG_ref (by decide) g7
  obtain ⟨x8, rfl, b8, d8⟩ := fG_ref (by decide) g8
  obtain ⟨m1, m2, m3, m4⟩ := hM
  obtain ⟨a0, c0, fs0, w0, e1, s0, t0, e4⟩ := m1 (0, 5, 5) (List.mem_of_getElem? (i := 0) rfl)
  obtain rfl : x0 = a0 := Sum.inl.inj (Option.some.inj (Sum.inr.inj (Sum.inr.inj (Option.some.inj (show some (fR x0) = some _ from e1)))))
  obtain rfl : fR x5 = w0 := Option.some.inj (show some (fR x5) = some w0 from e4)
  clear e1 e4
  obtain ⟨a1, c1, fs1, w1, e1, s1, t1, e4⟩ := m1 (0, 1, 6) (List.mem_of_getElem? (i := 1) rfl)
  obtain rfl : x0 = a1 := Sum.inl.inj (Option.some.inj (Sum.inr.inj (Sum.inr.inj (Option.some.inj (show some (fR x0) = some _ from e1)))))
  obtain rfl : fI x6 = w1 := Option.some.inj (show some (fI x6) = some w1 from e4)
  clear e1 e4
  obtain ⟨a2, c2, fs2, w2, e1, s2, t2, e4⟩ := m1 (0, 3, 7) (List.mem_of_getElem? (i := 2) rfl)
  obtain rfl : x0 = a2 := Sum.inl.inj (Option.some.inj (Sum.inr.inj (Sum.inr.inj (Option.some.inj (show some (fR x0) = some _ from e1)))))
  obtain rfl : fR x7 = w2 := Option.some.inj (show some (fR x7) = some w2 from e4)
  clear e1 e4
  obtain ⟨a3, c3, fs3, w3, e1, s3, t3, e4⟩ := m1 (0, 6, 8) (List.mem_of_getElem? (i := 3) rfl)
  obtain rfl : x0 = a3 := Sum.inl.inj (Option.some.inj (Sum.inr.inj (Sum.inr.inj (Option.some.inj (show some (fR x0) = some _ from e1)))))
  obtain rfl : fR x8 = w3 := Option.some.inj (show some (fR x8) = some w3 from e4)
  clear e1 e4
  obtain ⟨a, mc0, ty0, gc0, ic0, e1, sc0, jc0, e4, e5⟩ := m2 (5, ([(1, 1)], 0), 2) (List.mem_of_getElem? (i := 0) rfl)
  obtain rfl : x5 = a := Sum.inl.inj (Option.some.inj (Sum.inr.inj (Sum.inr.inj (Option.some.inj (show some (fR x5) = some _ from e1)))))
  obtain ⟨gc0, rfl⟩ : ∃ g, gc0 = .inl g := by
    rcases gc0 with g | g
    · exact ⟨g, rfl⟩
    · exact absurd (show some (fI x2) = some (.inr (.inl (g ic0))) from e5) (fun h => by cases h)
  have sc0 : σ x5 = .inl (ty0, mc0, .inl gc0) := sc0
  have ec0 : x2 = gc0 ic0 := Sum.inl.inj (Option.some.inj (show some (fI x2) = some _ from e5))
  have kc0 : (ic0 : Int) = (1 * x1.toInt + 0) + 0 := by
    obtain ⟨z, e6, e7⟩ := e4
    obtain rfl : (1 * x1.toInt + 0) = z := Option.some.inj (show some (1 * x1.toInt + 0) = some z from e6)
    exact e7
  clear e1 e4 e5
  obtain rfl : ic0 = x1.toInt.toNat := by omega
  have l0 : 0 ≤ (1 * x6.toInt + (-1 * x4.toInt + 0)) + 0 := by
    obtain ⟨z, e6, e7⟩ := m3 ([(6, 1), (4, -1)], 0) (List.mem_of_getElem? (i := 0) rfl)
    obtain rfl : (1 * x6.toInt + (-1 * x4.toInt + 0)) = z := Option.some.inj (show some (1 * x6.toInt + (-1 * x4.toInt + 0)) = some z from e6)
    exact e7
  have f0 : fB K n p 61 [fR x0, fI x1, fI x4] σ := by
    obtain ⟨w, e6, e7⟩ := m4 (979, [0, 1, 4]) (List.mem_of_getElem? (i := 0) rfl)
    obtain rfl : [fR x0, fI x1, fI x4] = w := Option.some.inj (show some [fR x0, fI x1, fI x4] = some w from e6)
    exact (fF_b (r := 979) (by decide) rfl).mp e7
  clear m1 m2 m3 m4
  obtain ⟨a, h, N, t, e, w, h0, N0, ⟨q, hq⟩, H⟩ := f0
  cases e
  subst hq
  obtain rfl := fRo_c w.2.2.1 s0 t0 sc0
  obtain ⟨L, L1, L2, L3⟩ := fTk_ch H (k := x1.toInt.toNat) (fTk_le H)
  have hN2 := H.2.1
  have q0 : fB K n (.inl q) 106 [fR x0, fI x1, fI x2, fI x3] σ := by
    refine ⟨_, _, _, _, x6, t.1, t.2.2.1, t.2.2.2.1, L, rfl, w.1, w.2.2.1, w.2.2.2.1, fFi_mk hH b0 d0 s1 t1, by omega, by omega, L1, L2, fun c hc => ?_, by omega, ?_⟩
    · obtain ⟨y1, y2, y3⟩ := L3 c hc
      exact ⟨y1, by omega, fI0 (by omega)⟩
    · rw [show x3.toInt.toNat = 0 by omega, List.drop_zero, ec0]
      exact L2
  exact ⟨.inl q, fun _ => rfl, ⟨(fun q h => by cases h), fun q h => (by cases h), (fun f h => by cases h), (aAllc ⟨_, rfl, (fF_b (r := 1700) (by decide) rfl).mpr q0⟩ (fun f h => by cases h))⟩, [], List.mem_cons_self, fun f h => (by cases h)⟩
set_option maxRecDepth 8192 in
theorem rw_ruCL0l {K : Nat → Nat} {n : Nat} : aGho (fF K n) fa_T K n (fJX K n) ag_ruCL0l := by
  refine aGho_of ⟨rfl, rfl⟩ ?_
  intro p σ ρ hH hX hA hM
  have hG := aAG_of hA.1 (fun i e v he hv => (hA.2 i e v he hv).1)
  clear hA
  obtain ⟨v0, v1, v2, v3, v4, v5, v6, v7, v8, v9, rfl, g0, g1, g2, g3, g4, g5, g6, g7, g8, g9⟩ := fA_10 hG
  clear hG
  obtain ⟨x0, rfl, b0, d0⟩ := fG_ref (by decide) g0
  obtain ⟨x1, rfl, b1, d1⟩ := aG_int g1
  dsimp only at b1 d1
  obtain ⟨x2, rfl, b2, d2⟩ := aG_int g2
  dsimp only at b2 d2
  obtain ⟨x3, rfl, b3, d3⟩ := aG_int g3
  dsimp only at b3 d3
  obtain ⟨x4, rfl, b4, d4⟩ := aG_int g4
  dsimp only at b4 d4
  obtain ⟨x5, rfl, b5, d5⟩ := fG_ref (by decide) g5
  obtain ⟨x6, rfl, b6, d6⟩ := aG_int g6
  dsimp only at b6 d6
  obtain ⟨x7, rfl, b7, d7⟩ := fG_ref (by decide) g7
  obtain ⟨x8, rfl, b8, d8⟩ := fG_ref (by decide) g8
  obtain ⟨x9, rfl, b9, d9⟩ := aG_int g9
  dsimp only at b9 d9
  obtain ⟨m1, m2, m3, m4⟩ := hM
  obtain ⟨a0, c0, fs0, w0, e1, s0, t0, e4⟩ := m1 (0, 5, 5) (List.mem_of_getElem? (i := 0) rfl)
  obtain rfl : x0 = a0 := Sum.inl.inj (Option.some.inj (Sum.inr.inj (Sum.inr.inj (Option.some.inj (show some (fR x0) = some _ from e1)))))
  obtain rfl : fR x5 = w0 := Option.some.inj (show some (fR x5) = some w0 from e4)
  clear e1 e4
  obtain ⟨a1, c1, fs1, w1, e1, s1, t1, e4⟩ := m1 (0, 1, 6) (List.mem_of_getElem? (i := 1) rfl)
  obtain rfl : x0 = a1 := Sum.inl.inj (Option.some.inj (Sum.inr.inj (Sum.inr.inj (Option.some.inj (show some (fR x0) = some _ from e1)))))
  obtain rfl : fI x6 = w1 := Option.some.inj (show some (fI x6) = some w1 from e4)
  clear e1 e4
  obtain ⟨a2, c2, fs2, w2, e1, s2, t2, e4⟩ := m1 (0, 3, 7) (List.mem_of_getElem? (i := 2) rfl)
  obtain rfl : x0 = a2 := Sum.inl.inj (Option.some.inj (Sum.inr.inj (Sum.inr.inj (Option.some.inj (show some (fR x0) = some _ from e1)))))
  obtain rfl : fR x7 = w2 := Option.some.inj (show some (fR x7) = some w2 from e4)
  clear e1 e4
  obtain ⟨a3, c3, fs3, w3, e1, s3, t3, e4⟩ := m1 (0, 6, 8) (List.mem_of_getElem? (i := 3) rfl)
  obtain rfl : x0 = a3 := Sum.inl.inj (Option.some.inj (Sum.inr.inj (Sum.inr.inj (Option.some.inj (show some (fR x0) = some _ from e1)))))
  obtain rfl : fR x8 = w3 := Option.some.inj (show some (fR x8) = some w3 from e4)
  clear e1 e4
  obtain ⟨a, mc0, ty0, gc0, ic0, e1, sc0, jc0, e4, e5⟩ := m2 (5, ([(1, 1)], 0), 2) (List.mem_of_getElem? (i := 0) rfl)
  obtain rfl : x5 = a := Sum.inl.inj (Option.some.inj (Sum.inr.inj (Sum.inr.inj (Option.some.inj (show some (fR x5) = some _ from e1)))))
  obtain ⟨gc0, rfl⟩ : ∃ g, gc0 = .inl g := by
    rcases gc0 with g | g
    · exact ⟨g, rfl⟩
    · exact absurd (show some (fI x2) = some (.inr (.inl (g ic0))) from e5) (fun h => by cases h)
  have sc0 : σ x5 = .inl (ty0, mc0, .inl gc0) := sc0
  have ec0 : x2 = gc0 ic0 := Sum.inl.inj (Option.some.inj (show some (fI x2) = some _ from e5))
  have kc0 : (ic0 : Int) = (1 * x1.toInt + 0) + 0 := by
    obtain ⟨z, e6, e7⟩ := e4
    obtain rfl : (1 * x1.toInt + 0) = z := Option.some.inj (show some (1 * x1.toInt + 0) = some z from e6)
    exact e7
  clear e1 e4 e5
  obtain rfl : ic0 = x1.toInt.toNat := by omega
  have l0 : 0 ≤ (1 * x6.toInt + (-1 * x4.toInt + 0)) + 0 := by
    obtain ⟨z, e6, e7⟩ := m3 ([(6, 1), (4, -1)], 0) (List.mem_of_getElem? (i := 0) rfl)
    obtain rfl : (1 * x6.toInt + (-1 * x4.toInt + 0)) = z := Option.some.inj (show some (1 * x6.toInt + (-1 * x4.toInt + 0)) = some z from e6)
    exact e7
  have l1 : 0 ≤ (1 * x4.toInt + (-1 * x1.toInt + 0)) + 0 := by
    obtain ⟨z, e6, e7⟩ := m3 ([(4, 1), (1, -1)], 0) (List.mem_of_getElem? (i := 1) rfl)
    obtain rfl : (1 * x4.toInt + (-1 * x1.toInt + 0)) = z := Option.some.inj (show some (1 * x4.toInt + (-1 * x1.toInt + 0)) = some z from e6)
    exact e7
  have f0 : fB K n p 61 [fR x0, fI x9, fI x4] σ := by
    obtain ⟨w, e6, e7⟩ := m4 (979, [0, 9, 4]) (List.mem_of_getElem? (i := 0) rfl)
    obtain rfl : [fR x0, fI x9, fI x4] = w := Option.some.inj (show some [fR x0, fI x9, fI x4] = some w from e6)
    exact (fF_b (r := 979) (by decide) rfl).mp e7
  clear m1 m2 m3 m4
  obtain ⟨a, h, N, t, e, w, h0, N0, ⟨q, hq⟩, H⟩ := f0
  cases e
  subst hq
  obtain rfl := fRo_c w.2.2.1 s0 t0 sc0
  obtain ⟨L, L1, L2, L3⟩ := fTk_ch H (k := x1.toInt.toNat) (by omega)
  have hN2 := H.2.1
  have q0 : fB K n (.inl q) 106 [fR x0, fI x1, fI x2, fI x3] σ := by
    refine ⟨_, _, _, _, x6, t.1, t.2.2.1, t.2.2.2.1, L, rfl, w.1, w.2.2.1, w.2.2.2.1, fFi_mk hH b0 d0 s1 t1, by omega, by omega, L1, L2, fun c hc => ?_, by omega, ?_⟩
    · obtain ⟨y1, y2, y3⟩ := L3 c hc
      exact ⟨y1, by omega, fI0 (by omega)⟩
    · rw [show x3.toInt.toNat = 0 by omega, List.drop_zero, ec0]
      exact L2
  exact ⟨.inl q, fun _ => rfl, ⟨(fun q h => by cases h), fun q h => (by cases h), (fun f h => by cases h), (aAllc ⟨_, rfl, (fF_b (r := 1700) (by decide) rfl).mpr q0⟩ (fun f h => by cases h))⟩, [], List.mem_cons_self, fun f h => (by cases h)⟩
set_option maxRecDepth 8192 in
theorem rw_ruCLs {K : Nat → Nat} {n : Nat} : aGho (fF K n) fa_T K n (fJX K n) ag_ruCLs := by
  refine aGho_of ⟨rfl, rfl⟩ ?_
  intro p σ ρ hH hX hA hM
  have hG := aAG_of hA.1 (fun i e v he hv => (hA.2 i e v he hv).1)
  clear hA
  obtain ⟨v0, v1, v2, v3, v4, v5, v6, rfl, g0, g1, g2, g3, g4, g5, g6⟩ := fA_7 hG
  clear hG
  obtain ⟨x0, rfl, b0, d0⟩ := fG_ref (by decide) g0
  obtain ⟨x1, rfl, b1, d1⟩ := aG_int g1
  dsimp only at b1 d1
  obtain ⟨x2, rfl, b2, d2⟩ := aG_int g2
  dsimp only at b2 d2
  obtain ⟨x3, rfl, b3, d3⟩ := aG_int g3
  dsimp only at b3 d3
  obtain ⟨x4, rfl, b4, d4⟩ := aG_int g4
  dsimp only at b4 d4
  obtain ⟨x5, rfl, b5, d5⟩ := aG_int g5
  dsimp only at b5 d5
  obtain ⟨x6, rfl, b6, d6⟩ := fG_ref (by decide) g6
  obtain ⟨m1, m2, m3, m4⟩ := hM
  obtain ⟨a0, c0, fs0, w0, e1, s0, t0, e4⟩ := m1 (0, 6, 6) (List.mem_of_getElem? (i := 0) rfl)
  obtain rfl : x0 = a0 := Sum.inl.inj (Option.some.inj (Sum.inr.inj (Sum.inr.inj (Option.some.inj (show some (fR x0) = some _ from e1)))))
  obtain rfl : fR x6 = w0 := Option.some.inj (show some (fR x6) = some w0 from e4)
  clear e1 e4
  obtain ⟨a, mc0, ty0, gc0, ic0, e1, sc0, jc0, e4, e5⟩ := m2 (6, ([(2, 1)], 0), 4) (List.mem_of_getElem? (i := 0) rfl)
  obtain rfl : x6 = a := Sum.inl.inj (Option.some.inj (Sum.inr.inj (Sum.inr.inj (Option.some.inj (show some (fR x6) = some _ from e1)))))
  obtain ⟨gc0, rfl⟩ : ∃ g, gc0 = .inl g := by
    rcases gc0 with g | g
    · exact ⟨g, rfl⟩
    · exact absurd (show some (fI x4) = some (.inr (.inl (g ic0))) from e5) (fun h => by cases h)
  have sc0 : σ x6 = .inl (ty0, mc0, .inl gc0) := sc0
  have ec0 : x4 = gc0 ic0 := Sum.inl.inj (Option.some.inj (show some (fI x4) = some _ from e5))
  have kc0 : (ic0 : Int) = (1 * x2.toInt + 0) + 0 := by
    obtain ⟨z, e6, e7⟩ := e4
    obtain rfl : (1 * x2.toInt + 0) = z := Option.some.inj (show some (1 * x2.toInt + 0) = some z from e6)
    exact e7
  clear e1 e4 e5
  obtain rfl : ic0 = x2.toInt.toNat := by omega
  have l0 : 0 ≤ (1 * x2.toInt + 0) + -1 := by
    obtain ⟨z, e6, e7⟩ := m3 ([(2, 1)], -1) (List.mem_of_getElem? (i := 0) rfl)
    obtain rfl : (1 * x2.toInt + 0) = z := Option.some.inj (show some (1 * x2.toInt + 0) = some z from e6)
    exact e7
  have l1 : 0 ≤ (1 * x5.toInt + (-1 * x3.toInt + 0)) + -1 := by
    obtain ⟨z, e6, e7⟩ := m3 ([(5, 1), (3, -1)], -1) (List.mem_of_getElem? (i := 1) rfl)
    obtain rfl : (1 * x5.toInt + (-1 * x3.toInt + 0)) = z := Option.some.inj (show some (1 * x5.toInt + (-1 * x3.toInt + 0)) = some z from e6)
    exact e7
  have l2 : 0 ≤ (-1 * x5.toInt + (1 * x3.toInt + 0)) + 1 := by
    obtain ⟨z, e6, e7⟩ := m3 ([(5, -1), (3, 1)], 1) (List.mem_of_getElem? (i := 2) rfl)
    obtain rfl : (-1 * x5.toInt + (1 * x3.toInt + 0)) = z := Option.some.inj (show some (-1 * x5.toInt + (1 * x3.toInt + 0)) = some z from e6)
    exact e7
  have f0 : fB K n p 106 [fR x0, fI x1, fI x2, fI x3] σ := by
    obtain ⟨w, e6, e7⟩ := m4 (1700, [0, 1, 2, 3]) (List.mem_of_getElem? (i := 0) rfl)
    obtain rfl : [fR x0, fI x1, fI x2, fI x3] = w := Option.some.inj (show some [fR x0, fI x1, fI x2, fI x3] = some w from e6)
    exact (fF_b (r := 1700) (by decide) rfl).mp e7
  clear m1 m2 m3 m4
  obtain ⟨a6, h6, c6, i6, N6, pa6, fi6, af6, L, e6, w6, y6, z6, u6, n6a, n6b, L1, L2, L3, i6a, L4⟩ := f0
  cases e6
  obtain rfl := fRo_c z6 s0 t0 sc0
  have hD := fCn_drop (y := x4.toInt) L4 (fun c hc => (L3 c hc).1) (by omega) (by rw [ec0])
  have q0 : fB K n (p) 106 [fR x0, fI x1, fI x4, fI x5] σ := by
    refine ⟨_, _, _, _, N6, pa6, fi6, _, L, rfl, w6, y6, z6, u6, n6a, n6b, L1, L2, L3, by omega, ?_⟩
    rw [show x5.toInt.toNat = x3.toInt.toNat + 1 by omega]
    exact hD.1
  exact ⟨p, fun _ => rfl, ⟨(fun q h => by cases h), fun q h => (by cases h), (fun f h => by cases h), (aAllc ⟨_, rfl, (fF_b (r := 1700) (by decide) rfl).mpr q0⟩ (fun f h => by cases h))⟩, [], List.mem_cons_self, fun f h => (by cases h)⟩
set_option maxRecDepth 8192 in
theorem rw_ruCLx {K : Nat → Nat} {n : Nat} : aGho (fF K n) fa_T K n (fJX K n) ag_ruCLx := by
  refine aGho_of ⟨rfl, rfl⟩ ?_
  intro p σ ρ hH hX hA hM
  have hG := aAG_of hA.1 (fun i e v he hv => (hA.2 i e v he hv).1)
  clear hA
  obtain ⟨v0, v1, v2, v3, rfl, g0, g1, g2, g3⟩ := fA_4 hG
  clear hG
  obtain ⟨x0, rfl, b0, d0⟩ := fG_ref (by decide) g0
  obtain ⟨x1, rfl, b1, d1⟩ := aG_int g1
  dsimp only at b1 d1
  obtain ⟨x2, rfl, b2, d2⟩ := aG_int g2
  dsimp only at b2 d2
  obtain ⟨x3, rfl, b3, d3⟩ := aG_int g3
  dsimp only at b3 d3
  obtain ⟨m1, m2, m3, m4⟩ := hM
  have l0 : 0 ≤ (1 * x3.toInt + 0) + -300 := by
    obtain ⟨z, e6, e7⟩ := m3 ([(3, 1)], -300) (List.mem_of_getElem? (i := 0) rfl)
    obtain rfl : (1 * x3.toInt + 0) = z := Option.some.inj (show some (1 * x3.toInt + 0) = some z from e6)
    exact e7
  have f0 : fB K n p 106 [fR x0, fI x1, fI x2, fI x3] σ := by
    obtain ⟨w, e6, e7⟩ := m4 (1700, [0, 1, 2, 3]) (List.mem_of_getElem? (i := 0) rfl)
    obtain rfl : [fR x0, fI x1, fI x2, fI x3] = w := Option.some.inj (show some [fR x0, fI x1, fI x2, fI x3] = some w from e6)
    exact (fF_b (r := 1700) (by decide) rfl).mp e7
  clear m1 m2 m3 m4
  obtain ⟨a6, h6, c6, i6, N6, pa6, fi6, af6, L, e6, w6, y6, z6, u6, n6a, n6b, L1, L2, L3, i6a, L4⟩ := f0
  cases e6
  have hz := fCn_end (N := N6.toInt.toNat) L4 L1 (fun c hc => ⟨(L3 c hc).1, by have := (L3 c hc).2.1; omega⟩) (by omega)
  have r0 : 0 ≤ (-1 * x2.toInt + 0) + 0 := by
    omega
  exact ⟨p, fun _ => rfl, ⟨(fun q h => by cases h), fun q h => (by cases h), (aAllc ⟨_, rfl, r0⟩ (fun f h => by cases h)), (fun f h => by cases h)⟩, [], List.mem_cons_self, fun f h => (by cases h)⟩
set_option maxRecDepth 8192 in
theorem rw_ruCLc {K : Nat → Nat} {n : Nat} : aGho (fF K n) fa_T K n (fJX K n) ag_ruCLc := by
  refine aGho_of ⟨rfl, rfl⟩ ?_
  intro p σ ρ hH hX hA hM
  have hG := aAG_of hA.1 (fun i e v he hv => (hA.2 i e v he hv).1)
  clear hA
  obtain ⟨v0, v1, v2, v3, rfl, g0, g1, g2, g3⟩ := fA_4 hG
  clear hG
  obtain ⟨x0, rfl, b0, d0⟩ := fG_ref (by decide) g0
  obtain ⟨x1, rfl, b1, d1⟩ := aG_int g1
  dsimp only at b1 d1
  obtain ⟨x2, rfl, b2, d2⟩ := aG_int g2
  dsimp only at b2 d2
  obtain ⟨x3, rfl, b3, d3⟩ := aG_int g3
  dsimp only at b3 d3
  obtain ⟨m1, m2, m3, m4⟩ := hM
  have l0 : 0 ≤ (1 * x2.toInt + 0) + -1 := by
    obtain ⟨z, e6, e7⟩ := m3 ([(2, 1)], -1) (List.mem_of_getElem? (i := 0) rfl)
    obtain rfl : (1 * x2.toInt + 0) = z := Option.some.inj (show some (1 * x2.toInt + 0) = some z from e6)
    exact e7
  have f0 : fB K n p 106 [fR x0, fI x1, fI x2, fI x3] σ := by
    obtain ⟨w, e6, e7⟩ := m4 (1700, [0, 1, 2, 3]) (List.mem_of_getElem? (i := 0) rfl)
    obtain rfl : [fR x0, fI x1, fI x2, fI x3] = w := Option.some.inj (show some [fR x0, fI x1, fI x2, fI x3] = some w from e6)
    exact (fF_b (r := 1700) (by decide) rfl).mp e7
  clear m1 m2 m3 m4
  obtain ⟨a6, h6, c6, i6, N6, pa6, fi6, af6, L, e6, w6, y6, z6, u6, n6a, n6b, L1, L2, L3, i6a, L4⟩ := f0
  cases e6
  obtain ⟨-, c, hc, ec⟩ := fCn_drop L4 (fun c hc => (L3 c hc).1) (by omega) rfl
  obtain ⟨y1, y2, y3⟩ := L3 c hc
  have q0 : fB K n (p) 104 [fR x0, fI x2, fI x1] σ := by
    exact ⟨_, _, _, N6, pa6, rfl, w6, u6, by omega, by omega, by rw [ec]; simpa using y3⟩
  exact ⟨p, fun _ => rfl, ⟨(fun q h => by cases h), fun q h => (by cases h), (fun f h => by cases h), (aAllc ⟨_, rfl, (fF_b (r := 1667) (by decide) rfl).mpr q0⟩ (fun f h => by cases h))⟩, [], List.mem_cons_self, fun f h => (by cases h)⟩
set_option maxRecDepth 8192 in
theorem rw_ruC0 {K : Nat → Nat} {n : Nat} : aGho (fF K n) fa_T K n (fJX K n) ag_ruC0 := by
  refine aGho_of ⟨rfl, rfl⟩ ?_
  intro p σ ρ hH hX hA hM
  have hG := aAG_of hA.1 (fun i e v he hv => (hA.2 i e v he hv).1)
  clear hA
  obtain ⟨v0, v1, v2, v3, rfl, g0, g1, g2, g3⟩ := fA_4 hG
  clear hG
  obtain ⟨x0, rfl, b0, d0⟩ := fG_ref (by decide) g0
  obtain ⟨x1, rfl, b1, d1⟩ := aG_int g1
  dsimp only at b1 d1
  obtain ⟨x2, rfl, b2, d2⟩ := aG_int g2
  dsimp only at b2 d2
  obtain ⟨x3, rfl, b3, d3⟩ := aG_int g3
  dsimp only at b3 d3
  obtain ⟨m1, m2, m3, m4⟩ := hM
  have l0 : 0 ≤ (-1 * x1.toInt + 0) + 0 := by
    obtain ⟨z, e6, e7⟩ := m3 ([(1, -1)], 0) (List.mem_of_getElem? (i := 0) rfl)
    obtain rfl : (-1 * x1.toInt + 0) = z := Option.some.inj (show some (-1 * x1.toInt + 0) = some z from e6)
    exact e7
  clear m1 m2 m3 m4
  have q0 : fB K n (p) 109 [fR x0, fI x1, fI x2, fI x3] σ := by
    exact ⟨_, _, _, _, rfl, Or.inl (by omega)⟩
  exact ⟨p, fun _ => rfl, ⟨(fun q h => by cases h), fun q h => (by cases h), (fun f h => by cases h), (aAllc ⟨_, rfl, (fF_b (r := 1748) (by decide) rfl).mpr q0⟩ (fun f h => by cases h))⟩, [], List.mem_cons_self, fun f h => (by cases h)⟩
set_option maxRecDepth 8192 in
theorem rw_ruMVc {K : Nat → Nat} {n : Nat} : aGho (fF K n) fa_T K n (fJX K n) ag_ruMVc := by
  refine aGho_of ⟨rfl, rfl⟩ ?_
  intro p σ ρ hH hX hA hM
  have hG := aAG_of hA.1 (fun i e v he hv => (hA.2 i e v he hv).1)
  clear hA
  obtain ⟨v0, v1, v2, v3, rfl, g0, g1, g2, g3⟩ := fA_4 hG
  clear hG
  obtain ⟨x0, rfl, b0, d0⟩ := fG_ref (by decide) g0
  obtain ⟨x1, rfl, b1, d1⟩ := aG_int g1
  dsimp only at b1 d1
  obtain ⟨x2, rfl, b2, d2⟩ := aG_int g2
  dsimp only at b2 d2
  obtain ⟨x3, rfl, b3, d3⟩ := fG_ref (by decide) g3
  obtain ⟨m1, m2, m3, m4⟩ := hM
  obtain ⟨a0, c0, fs0, w0, e1, s0, t0, e4⟩ := m1 (0, 4, 3) (List.mem_of_getElem? (i := 0) rfl)
  obtain rfl : x0 = a0 := Sum.inl.inj (Option.some.inj (Sum.inr.inj (Sum.inr.inj (Option.some.inj (show some (fR x0) = some _ from e1)))))
  obtain rfl : fR x3 = w0 := Option.some.inj (show some (fR x3) = some w0 from e4)
  clear e1 e4
  obtain ⟨a, mc0, ty0, gc0, ic0, e1, sc0, jc0, e4, e5⟩ := m2 (3, ([(1, 1)], 0), 2) (List.mem_of_getElem? (i := 0) rfl)
  obtain rfl : x3 = a := Sum.inl.inj (Option.some.inj (Sum.inr.inj (Sum.inr.inj (Option.some.inj (show some (fR x3) = some _ from e1)))))
  obtain ⟨gc0, rfl⟩ : ∃ g, gc0 = .inl g := by
    rcases gc0 with g | g
    · exact ⟨g, rfl⟩
    · exact absurd (show some (fI x2) = some (.inr (.inl (g ic0))) from e5) (fun h => by cases h)
  have sc0 : σ x3 = .inl (ty0, mc0, .inl gc0) := sc0
  have ec0 : x2 = gc0 ic0 := Sum.inl.inj (Option.some.inj (show some (fI x2) = some _ from e5))
  have kc0 : (ic0 : Int) = (1 * x1.toInt + 0) + 0 := by
    obtain ⟨z, e6, e7⟩ := e4
    obtain rfl : (1 * x1.toInt + 0) = z := Option.some.inj (show some (1 * x1.toInt + 0) = some z from e6)
    exact e7
  clear e1 e4 e5
  obtain rfl : ic0 = x1.toInt.toNat := by omega
  clear m1 m2 m3 m4
  obtain ⟨mvg, w5, e5⟩ := fRo_mk hH b0 d0 s0 t0 b3 d3 (q := ((0, 32767), [])) rfl
  rw [sc0] at e5
  cases e5
  have q0 : fB K n (p) 110 [fR x0, fI x1, fI x2] σ := by
    exact ⟨_, _, _, gc0, rfl, w5, ec0.symm⟩
  exact ⟨p, fun _ => rfl, ⟨(fun q h => by cases h), fun q h => (by cases h), (fun f h => by cases h), (aAllc ⟨_, rfl, (fF_b (r := 1763) (by decide) rfl).mpr q0⟩ (fun f h => by cases h))⟩, [], List.mem_cons_self, fun f h => (by cases h)⟩
set_option maxRecDepth 8192 in
theorem rw_ruCm {K : Nat → Nat} {n : Nat} : aGho (fF K n) fa_T K n (fJX K n) ag_ruCm := by
  refine aGho_of ⟨rfl, rfl⟩ ?_
  intro p σ ρ hH hX hA hM
  have hG := aAG_of hA.1 (fun i e v he hv => (hA.2 i e v he hv).1)
  clear hA
  obtain ⟨v0, v1, v2, v3, v4, v5, rfl, g0, g1, g2, g3, g4, g5⟩ := fA_6 hG
  clear hG
  obtain ⟨x0, rfl, b0, d0⟩ := fG_ref (by decide) g0
  obtain ⟨x1, rfl, b1, d1⟩ := aG_int g1
  dsimp only at b1 d1
  obtain ⟨x2, rfl, b2, d2⟩ := aG_int g2
  dsimp only at b2 d2
  obtain ⟨x3, rfl, b3, d3⟩ := aG_int g3
  dsimp only at b3 d3
  obtain ⟨x4, rfl, b4, d4⟩ := aG_int g4
  dsimp only at b4 d4
  obtain ⟨x5, rfl, b5, d5⟩ := aG_int g5
  dsimp only at b5 d5
  obtain ⟨m1, m2, m3, m4⟩ := hM
  have l0 : 0 ≤ (1 * x2.toInt + 0) + -1 := by
    obtain ⟨z, e6, e7⟩ := m3 ([(2, 1)], -1) (List.mem_of_getElem? (i := 0) rfl)
    obtain rfl : (1 * x2.toInt + 0) = z := Option.some.inj (show some (1 * x2.toInt + 0) = some z from e6)
    exact e7
  have l1 : 0 ≤ (1 * x4.toInt + (-1 * x5.toInt + 0)) + 0 := by
    obtain ⟨z, e6, e7⟩ := m3 ([(4, 1), (5, -1)], 0) (List.mem_of_getElem? (i := 1) rfl)
    obtain rfl : (1 * x4.toInt + (-1 * x5.toInt + 0)) = z := Option.some.inj (show some (1 * x4.toInt + (-1 * x5.toInt + 0)) = some z from e6)
    exact e7
  have l2 : 0 ≤ (-1 * x4.toInt + (1 * x5.toInt + 0)) + 0 := by
    obtain ⟨z, e6, e7⟩ := m3 ([(4, -1), (5, 1)], 0) (List.mem_of_getElem? (i := 2) rfl)
    obtain rfl : (-1 * x4.toInt + (1 * x5.toInt + 0)) = z := Option.some.inj (show some (-1 * x4.toInt + (1 * x5.toInt + 0)) = some z from e6)
    exact e7
  have f0 : fB K n p 106 [fR x0, fI x1, fI x2, fI x3] σ := by
    obtain ⟨w, e6, e7⟩ := m4 (1700, [0, 1, 2, 3]) (List.mem_of_getElem? (i := 0) rfl)
    obtain rfl : [fR x0, fI x1, fI x2, fI x3] = w := Option.some.inj (show some [fR x0, fI x1, fI x2, fI x3] = some w from e6)
    exact (fF_b (r := 1700) (by decide) rfl).mp e7
  have f1 : fB K n p 110 [fR x0, fI x2, fI x4] σ := by
    obtain ⟨w, e6, e7⟩ := m4 (1763, [0, 2, 4]) (List.mem_of_getElem? (i := 1) rfl)
    obtain rfl : [fR x0, fI x2, fI x4] = w := Option.some.inj (show some [fR x0, fI x2, fI x4] = some w from e6)
    exact (fF_b (r := 1763) (by decide) rfl).mp e7
  clear m1 m2 m3 m4
  obtain ⟨a6, h6, c6, i6, N6, pa6, fi6, af6, L, e6, w6, y6, z6, u6, n6a, n6b, L1, L2, L3, i6a, L4⟩ := f0
  cases e6
  obtain ⟨a7, c7, m7, mv7, e7, w7, k7⟩ := f1
  cases e7
  obtain ⟨-, c, hc, ec⟩ := fCn_drop L4 (fun c hc => (L3 c hc).1) (by omega) rfl
  obtain ⟨y1, y2, y3⟩ := L3 c hc
  obtain rfl : x5 = x4 := fI0 (by omega)
  have q0 : fB K n (p) 109 [fR x0, fI x2, fI x1, fI x5] σ := by
    exact ⟨_, _, _, _, rfl, Or.inr ⟨N6, pa6, mv7, w6, u6, w7, by omega, by omega, by rw [ec]; simpa using y3, k7⟩⟩
  exact ⟨p, fun _ => rfl, ⟨(fun q h => by cases h), fun q h => (by cases h), (fun f h => by cases h), (aAllc ⟨_, rfl, (fF_b (r := 1748) (by decide) rfl).mpr q0⟩ (fun f h => by cases h))⟩, [], List.mem_cons_self, fun f h => (by cases h)⟩
set_option maxRecDepth 8192 in
theorem rw_ruCMn {K : Nat → Nat} {n : Nat} : aGho (fF K n) fa_T K n (fJX K n) ag_ruCMn := by
  refine aGho_of ⟨rfl, rfl⟩ ?_
  intro p σ ρ hH hX hA hM
  have hG := aAG_of hA.1 (fun i e v he hv => (hA.2 i e v he hv).1)
  clear hA
  obtain ⟨v0, v1, v2, v3, rfl, g0, g1, g2, g3⟩ := fA_4 hG
  clear hG
  obtain ⟨x0, rfl, b0, d0⟩ := fG_ref (by decide) g0
  obtain ⟨x1, rfl, b1, d1⟩ := aG_int g1
  dsimp only at b1 d1
  obtain ⟨x2, rfl, b2, d2⟩ := aG_int g2
  dsimp only at b2 d2
  obtain ⟨x3, rfl, b3, d3⟩ := aG_int g3
  dsimp only at b3 d3
  obtain ⟨m1, m2, m3, m4⟩ := hM
  have l0 : 0 ≤ (1 * x1.toInt + 0) + -1 := by
    obtain ⟨z, e6, e7⟩ := m3 ([(1, 1)], -1) (List.mem_of_getElem? (i := 0) rfl)
    obtain rfl : (1 * x1.toInt + 0) = z := Option.some.inj (show some (1 * x1.toInt + 0) = some z from e6)
    exact e7
  have f0 : fB K n p 109 [fR x0, fI x1, fI x2, fI x3] σ := by
    obtain ⟨w, e6, e7⟩ := m4 (1748, [0, 1, 2, 3]) (List.mem_of_getElem? (i := 0) rfl)
    obtain rfl : [fR x0, fI x1, fI x2, fI x3] = w := Option.some.inj (show some [fR x0, fI x1, fI x2, fI x3] = some w from e6)
    exact (fF_b (r := 1748) (by decide) rfl).mp e7
  clear m1 m2 m3 m4
  obtain ⟨a7, c7, h7, m7, e7, k7⟩ := f0
  cases e7
  obtain ⟨N7, pa7, mv7, w7, u7, z7, l7a, l7b, p7, q7⟩ := k7.resolve_left (by omega)
  have q0 : fB K n (p) 105 [fR x0, fI x1, fI x2, fI x3] σ := by
    exact ⟨_, _, _, _, N7, pa7, mv7, rfl, w7, u7, z7, l7a, l7b, p7, q7⟩
  exact ⟨p, fun _ => rfl, ⟨(fun q h => by cases h), fun q h => (by cases h), (fun f h => by cases h), (aAllc ⟨_, rfl, (fF_b (r := 1684) (by decide) rfl).mpr q0⟩ (fun f h => by cases h))⟩, [], List.mem_cons_self, fun f h => (by cases h)⟩
set_option maxRecDepth 8192 in
theorem rw_ruPC0 {K : Nat → Nat} {n : Nat} : aGho (fF K n) fa_T K n (fJX K n) ag_ruPC0 := by
  refine aGho_of ⟨rfl, rfl⟩ ?_
  intro p σ ρ hH hX hA hM
  have hG := aAG_of hA.1 (fun i e v he hv => (hA.2 i e v he hv).1)
  clear hA
  obtain ⟨v0, v1, v2, v3, v4, v5, rfl, g0, g1, g2, g3, g4, g5⟩ := fA_6 hG
  clear hG
  obtain ⟨x0, rfl, b0, d0⟩ := fG_ref (by decide) g0
  obtain ⟨x1, rfl, b1, d1⟩ := aG_int g1
  dsimp only at b1 d1
  obtain ⟨x2, rfl, b2, d2⟩ := aG_int g2
  dsimp only at b2 d2
  obtain ⟨x3, rfl, b3, d3⟩ := aG_int g3
  dsimp only at b3 d3
  obtain ⟨x4, rfl, b4, d4⟩ := fG_ref (by decide) g4
  obtain ⟨x5, rfl, b5, d5⟩ := fG_ref (by decide) g5
  obtain ⟨m1, m2, m3, m4⟩ := hM
  obtain ⟨a0, c0, fs0, w0, e1, s0, t0, e4⟩ := m1 (0, 1, 3) (List.mem_of_getElem? (i := 0) rfl)
  obtain rfl : x0 = a0 := Sum.inl.inj (Option.some.inj (Sum.inr.inj (Sum.inr.inj (Option.some.inj (show some (fR x0) = some _ from e1)))))
  obtain rfl : fI x3 = w0 := Option.some.inj (show some (fI x3) = some w0 from e4)
  clear e1 e4
  obtain ⟨a1, c1, fs1, w1, e1, s1, t1, e4⟩ := m1 (0, 3, 4) (List.mem_of_getElem? (i := 1) rfl)
  obtain rfl : x0 = a1 := Sum.inl.inj (Option.some.inj (Sum.inr.inj (Sum.inr.inj (Option.some.inj (show some (fR x0) = some _ from e1)))))
  obtain rfl : fR x4 = w1 := Option.some.inj (show some (fR x4) = some w1 from e4)
  clear e1 e4
  obtain ⟨a2, c2, fs2, w2, e1, s2, t2, e4⟩ := m1 (0, 12, 5) (List.mem_of_getElem? (i := 2) rfl)
  obtain rfl : x0 = a2 := Sum.inl.inj (Option.some.inj (Sum.inr.inj (Sum.inr.inj (Option.some.inj (show some (fR x0) = some _ from e1)))))
  obtain rfl : fR x5 = w2 := Option.some.inj (show some (fR x5) = some w2 from e4)
  clear e1 e4
  have l0 : 0 ≤ (1 * x3.toInt + (-1 * x2.toInt + 0)) + 0 := by
    obtain ⟨z, e6, e7⟩ := m3 ([(3, 1), (2, -1)], 0) (List.mem_of_getElem? (i := 0) rfl)
    obtain rfl : (1 * x3.toInt + (-1 * x2.toInt + 0)) = z := Option.some.inj (show some (1 * x3.toInt + (-1 * x2.toInt + 0)) = some z from e6)
    exact e7
  clear m1 m2 m3 m4
  obtain ⟨pa, wp, -⟩ := fRo_mk hH b0 d0 s1 t1 b4 d4 (q := ((0, 300), [])) rfl
  obtain ⟨pt, wt, hpt⟩ := fRo_mk hH b0 d0 s2 t2 b5 d5 (q := ((-2147483648, 2147483647), [])) rfl
  have q0 : fB K n (p) 102 [fR x0, fI x1, fI x2] σ := by
    exact ⟨_, _, _, x3, pa, pt, rfl, ⟨wp, wt, fFi_mk hH b0 d0 s0 t0⟩, fun j hj => by omega, fun j hj => by omega, fun h => by omega, by omega⟩
  exact ⟨p, fun _ => rfl, ⟨(fun q h => by cases h), fun q h => (by cases h), (fun f h => by cases h), (aAllc ⟨_, rfl, (fF_b (r := 1635) (by decide) rfl).mpr q0⟩ (fun f h => by cases h))⟩, [], List.mem_cons_self, fun f h => (by cases h)⟩
set_option maxRecDepth 8192 in
theorem rw_ruPCs {K : Nat → Nat} {n : Nat} : aGho (fF K n) fa_T K n (fJX K n) ag_ruPCs := by
  refine aGho_of ⟨rfl, rfl⟩ ?_
  intro p σ ρ hH hX hA hM
  have hG := aAG_of hA.1 (fun i e v he hv => (hA.2 i e v he hv).1)
  clear hA
  obtain ⟨v0, v1, v2, v3, rfl, g0, g1, g2, g3⟩ := fA_4 hG
  clear hG
  obtain ⟨x0, rfl, b0, d0⟩ := fG_ref (by decide) g0
  obtain ⟨x1, rfl, b1, d1⟩ := aG_int g1
  dsimp only at b1 d1
  obtain ⟨x2, rfl, b2, d2⟩ := aG_int g2
  dsimp only at b2 d2
  obtain ⟨x3, rfl, b3, d3⟩ := fG_ref (by decide) g3
  obtain ⟨m1, m2, m3, m4⟩ := hM
  obtain ⟨a0, c0, fs0, w0, e1, s0, t0, e4⟩ := m1 (0, 12, 3) (List.mem_of_getElem? (i := 0) rfl)
  obtain rfl : x0 = a0 := Sum.inl.inj (Option.some.inj (Sum.inr.inj (Sum.inr.inj (Option.some.inj (show some (fR x0) = some _ from e1)))))
  obtain rfl : fR x3 = w0 := Option.some.inj (show some (fR x3) = some w0 from e4)
  clear e1 e4
  have l0 : 0 ≤ (1 * x2.toInt + 0) + -1 := by
    obtain ⟨z, e6, e7⟩ := m3 ([(2, 1)], -1) (List.mem_of_getElem? (i := 0) rfl)
    obtain rfl : (1 * x2.toInt + 0) = z := Option.some.inj (show some (1 * x2.toInt + 0) = some z from e6)
    exact e7
  have f0 : fB K n p 102 [fR x0, fI x1, fI x2] σ := by
    obtain ⟨w, e6, e7⟩ := m4 (1635, [0, 1, 2]) (List.mem_of_getElem? (i := 0) rfl)
    obtain rfl : [fR x0, fI x1, fI x2] = w := Option.some.inj (show some [fR x0, fI x1, fI x2] = some w from e6)
    exact (fF_b (r := 1635) (by decide) rfl).mp e7
  clear m1 m2 m3 m4
  obtain ⟨a, l, x, N, pa, pt, e, ⟨wp, wt, un⟩, y1, y2, y3, y4⟩ := f0
  cases e
  have q0 : fB K n (p) 108 [fR x0, fI x1] (jup σ x3 (jsto (σ x3) x1.toNatClampNeg x2)) := by
    have hg : ¬ K x3 = 25 := by rw [d3]; decide
    have hk : ¬ K x3 = 38 := by rw [d3]; decide
    refine ⟨_, _, N, pa, upd pt x1.toInt.toNat x2, rfl, ⟨fRo_ne wp hg hk, fRo_st wt s0 t0 (by decide), fFi_ne un hg⟩, fun j hj => ?_, fun j hj => ?_⟩
    · unfold upd
      split
      · omega
      · exact y1 j (by omega)
    · have h1 : ¬ j = x1.toInt.toNat := by omega
      unfold upd
      rw [if_neg h1]
      split
      next e => rw [← y3 (by omega), show x1.toInt.toNat - 1 = j by omega]
      next => exact y2 j (by omega)
  exact ⟨p, fun _ => rfl, ⟨(fun q h => by cases h), fun q h => (by cases h), (fun f h => by cases h), (aAllc ⟨_, rfl, fF_p (r := 1730) (by decide) (by decide) rfl q0⟩ (fun f h => by cases h))⟩, [], List.mem_cons_self, fun f h => (by cases h)⟩
set_option maxRecDepth 8192 in
theorem rw_ruPC2 {K : Nat → Nat} {n : Nat} : aGho (fF K n) fa_T K n (fJX K n) ag_ruPC2 := by
  refine aGho_of ⟨rfl, rfl⟩ ?_
  intro p σ ρ hH hX hA hM
  have hG := aAG_of hA.1 (fun i e v he hv => (hA.2 i e v he hv).1)
  clear hA
  obtain ⟨v0, v1, v2, v3, v4, v5, v6, rfl, g0, g1, g2, g3, g4, g5, g6⟩ := fA_7 hG
  clear hG
  obtain ⟨x0, rfl, b0, d0⟩ := fG_ref (by decide) g0
  obtain ⟨x1, rfl, b1, d1⟩ := aG_int g1
  dsimp only at b1 d1
  obtain ⟨x2, rfl, b2, d2⟩ := aG_int g2
  dsimp only at b2 d2
  obtain ⟨x3, rfl, b3, d3⟩ := aG_int g3
  dsimp only at b3 d3
  obtain ⟨x4, rfl, b4, d4⟩ := aG_int g4
  dsimp only at b4 d4
  obtain ⟨x5, rfl, b5, d5⟩ := fG_ref (by decide) g5
  obtain ⟨x6, rfl, b6, d6⟩ := fG_ref (by decide) g6
  obtain ⟨m1, m2, m3, m4⟩ := hM
  obtain ⟨a0, c0, fs0, w0, e1, s0, t0, e4⟩ := m1 (0, 3, 5) (List.mem_of_getElem? (i := 0) rfl)
  obtain rfl : x0 = a0 := Sum.inl.inj (Option.some.inj (Sum.inr.inj (Sum.inr.inj (Option.some.inj (show some (fR x0) = some _ from e1)))))
  obtain rfl : fR x5 = w0 := Option.some.inj (show some (fR x5) = some w0 from e4)
  clear e1 e4
  obtain ⟨a1, c1, fs1, w1, e1, s1, t1, e4⟩ := m1 (0, 12, 6) (List.mem_of_getElem? (i := 1) rfl)
  obtain rfl : x0 = a1 := Sum.inl.inj (Option.some.inj (Sum.inr.inj (Sum.inr.inj (Option.some.inj (show some (fR x0) = some _ from e1)))))
  obtain rfl : fR x6 = w1 := Option.some.inj (show some (fR x6) = some w1 from e4)
  clear e1 e4
  obtain ⟨a, mc0, ty0, gc0, ic0, e1, sc0, jc0, e4, e5⟩ := m2 (5, ([(3, 1)], 0), 4) (List.mem_of_getElem? (i := 0) rfl)
  obtain rfl : x5 = a := Sum.inl.inj (Option.some.inj (Sum.inr.inj (Sum.inr.inj (Option.some.inj (show some (fR x5) = some _ from e1)))))
  obtain ⟨gc0, rfl⟩ : ∃ g, gc0 = .inl g := by
    rcases gc0 with g | g
    · exact ⟨g, rfl⟩
    · exact absurd (show some (fI x4) = some (.inr (.inl (g ic0))) from e5) (fun h => by cases h)
  have sc0 : σ x5 = .inl (ty0, mc0, .inl gc0) := sc0
  have ec0 : x4 = gc0 ic0 := Sum.inl.inj (Option.some.inj (show some (fI x4) = some _ from e5))
  have kc0 : (ic0 : Int) = (1 * x3.toInt + 0) + 0 := by
    obtain ⟨z, e6, e7⟩ := e4
    obtain rfl : (1 * x3.toInt + 0) = z := Option.some.inj (show some (1 * x3.toInt + 0) = some z from e6)
    exact e7
  clear e1 e4 e5
  obtain rfl : ic0 = x3.toInt.toNat := by omega
  obtain ⟨a, mc1, ty1, gc1, ic1, e1, sc1, jc1, e4, e5⟩ := m2 (6, ([(1, 1)], 0), 3) (List.mem_of_getElem? (i := 1) rfl)
  obtain rfl : x6 = a := Sum.inl.inj (Option.some.inj (Sum.inr.inj (Sum.inr.inj (Option.some.inj (show some (fR x6) = some _ from e1)))))
  obtain ⟨gc1, rfl⟩ : ∃ g, gc1 = .inl g := by
    rcases gc1 with g | g
    · exact ⟨g, rfl⟩
    · exact absurd (show some (fI x3) = some (.inr (.inl (g ic1))) from e5) (fun h => by cases h)
  have sc1 : σ x6 = .inl (ty1, mc1, .inl gc1) := sc1
  have ec1 : x3 = gc1 ic1 := Sum.inl.inj (Option.some.inj (show some (fI x3) = some _ from e5))
  have kc1 : (ic1 : Int) = (1 * x1.toInt + 0) + 0 := by
    obtain ⟨z, e6, e7⟩ := e4
    obtain rfl : (1 * x1.toInt + 0) = z := Option.some.inj (show some (1 * x1.toInt + 0) = some z from e6)
    exact e7
  clear e1 e4 e5
  obtain rfl : ic1 = x1.toInt.toNat := by omega
  have l0 : 0 ≤ (1 * x3.toInt + 0) + -1 := by
    obtain ⟨z, e6, e7⟩ := m3 ([(3, 1)], -1) (List.mem_of_getElem? (i := 0) rfl)
    obtain rfl : (1 * x3.toInt + 0) = z := Option.some.inj (show some (1 * x3.toInt + 0) = some z from e6)
    exact e7
  have l1 : 0 ≤ (1 * x2.toInt + (-1 * x1.toInt + 0)) + -1 := by
    obtain ⟨z, e6, e7⟩ := m3 ([(2, 1), (1, -1)], -1) (List.mem_of_getElem? (i := 1) rfl)
    obtain rfl : (1 * x2.toInt + (-1 * x1.toInt + 0)) = z := Option.some.inj (show some (1 * x2.toInt + (-1 * x1.toInt + 0)) = some z from e6)
    exact e7
  have l2 : 0 ≤ (-1 * x2.toInt + (1 * x1.toInt + 0)) + 1 := by
    obtain ⟨z, e6, e7⟩ := m3 ([(2, -1), (1, 1)], 1) (List.mem_of_getElem? (i := 2) rfl)
    obtain rfl : (-1 * x2.toInt + (1 * x1.toInt + 0)) = z := Option.some.inj (show some (-1 * x2.toInt + (1 * x1.toInt + 0)) = some z from e6)
    exact e7
  have f0 : fB K n p 108 [fR x0, fI x1] σ := by
    obtain ⟨w, e6, e7⟩ := m4 (1730, [0, 1]) (List.mem_of_getElem? (i := 0) rfl)
    obtain rfl : [fR x0, fI x1] = w := Option.some.inj (show some [fR x0, fI x1] = some w from e6)
    exact (fF_b (r := 1730) (by decide) rfl).mp e7
  have f1 : fB K n p 100 [fR x0] σ := by
    obtain ⟨w, e6, e7⟩ := m4 (1601, [0]) (List.mem_of_getElem? (i := 1) rfl)
    obtain rfl : [fR x0] = w := Option.some.inj (show some [fR x0] = some w from e6)
    exact (fF_b (r := 1601) (by decide) rfl).mp e7
  clear m1 m2 m3 m4
  obtain ⟨a, l, N, pa, pt, e, ⟨wp, wt, un⟩, y1, y2⟩ := f0
  cases e
  obtain ⟨a7, b7, h7, N7, t7, q7, e7, w7, u7, v7, -, -, n7, H7, -⟩ := f1
  cases e7
  obtain rfl := fRo_c wp s0 t0 sc0
  obtain rfl := fRo_c wt s1 t1 sc1
  obtain rfl := fRo_u wp w7.1
  have eN : N7 = N := by obtain ⟨_, _, fs9, hs9, ht9⟩ := un; exact (fFi_i v7 hs9 ht9).symm
  subst eN
  have hx := y1 x1.toInt.toNat (by omega)
  rw [← ec1] at hx
  have hp := fTk_pa H7 (k := x3.toInt.toNat) (by omega) (by omega)
  rw [← ec0] at hp
  have r0 : 0 ≤ (1 * x3.toInt + (-1 * x4.toInt + 0)) + -1 := by
    omega
  have q0 : fB K n (p) 102 [fR x0, fI x2, fI x4] σ := by
    refine ⟨_, _, _, N7, _, _, rfl, ⟨wp, wt, un⟩, fun j hj => y1 j (by omega), fun j hj => y2 j (by omega), fun _ => ?_, by omega⟩
    rw [show x2.toInt.toNat - 1 = x1.toInt.toNat by omega, ← ec1, ← ec0]
  exact ⟨p, fun _ => rfl, ⟨(fun q h => by cases h), fun q h => (by cases h), (aAllc ⟨_, rfl, r0⟩ (fun f h => by cases h)), (aAllc ⟨_, rfl, (fF_b (r := 1635) (by decide) rfl).mpr q0⟩ (fun f h => by cases h))⟩, [], List.mem_cons_self, fun f h => (by cases h)⟩
set_option maxRecDepth 8192 in
theorem rw_ruPD0 {K : Nat → Nat} {n : Nat} : aGho (fF K n) fa_T K n (fJX K n) ag_ruPD0 := by
  refine aGho_of ⟨rfl, rfl⟩ ?_
  intro p σ ρ hH hX hA hM
  have hG := aAG_of hA.1 (fun i e v he hv => (hA.2 i e v he hv).1)
  clear hA
  obtain ⟨v0, v1, v2, v3, v4, rfl, g0, g1, g2, g3, g4⟩ := fA_5 hG
  clear hG
  obtain ⟨x0, rfl, b0, d0⟩ := fG_ref (by decide) g0
  obtain ⟨x1, rfl, b1, d1⟩ := aG_int g1
  dsimp only at b1 d1
  obtain ⟨x2, rfl, b2, d2⟩ := aG_int g2
  dsimp only at b2 d2
  obtain ⟨x3, rfl, b3, d3⟩ := aG_int g3
  dsimp only at b3 d3
  obtain ⟨x4, rfl, b4, d4⟩ := aG_int g4
  dsimp only at b4 d4
  obtain ⟨m1, m2, m3, m4⟩ := hM
  have l0 : 0 ≤ (-1 * x2.toInt + 0) + 0 := by
    obtain ⟨z, e6, e7⟩ := m3 ([(2, -1)], 0) (List.mem_of_getElem? (i := 0) rfl)
    obtain rfl : (-1 * x2.toInt + 0) = z := Option.some.inj (show some (-1 * x2.toInt + 0) = some z from e6)
    exact e7
  have l1 : 0 ≤ (-1 * x4.toInt + 0) + 0 := by
    obtain ⟨z, e6, e7⟩ := m3 ([(4, -1)], 0) (List.mem_of_getElem? (i := 1) rfl)
    obtain rfl : (-1 * x4.toInt + 0) = z := Option.some.inj (show some (-1 * x4.toInt + 0) = some z from e6)
    exact e7
  have l2 : 0 ≤ (1 * x3.toInt + (-1 * x1.toInt + 0)) + 1 := by
    obtain ⟨z, e6, e7⟩ := m3 ([(3, 1), (1, -1)], 1) (List.mem_of_getElem? (i := 2) rfl)
    obtain rfl : (1 * x3.toInt + (-1 * x1.toInt + 0)) = z := Option.some.inj (show some (1 * x3.toInt + (-1 * x1.toInt + 0)) = some z from e6)
    exact e7
  have l3 : 0 ≤ (-1 * x3.toInt + (1 * x1.toInt + 0)) + -1 := by
    obtain ⟨z, e6, e7⟩ := m3 ([(3, -1), (1, 1)], -1) (List.mem_of_getElem? (i := 3) rfl)
    obtain rfl : (-1 * x3.toInt + (1 * x1.toInt + 0)) = z := Option.some.inj (show some (-1 * x3.toInt + (1 * x1.toInt + 0)) = some z from e6)
    exact e7
  have f0 : fB K n p 102 [fR x0, fI x1, fI x2] σ := by
    obtain ⟨w, e6, e7⟩ := m4 (1635, [0, 1, 2]) (List.mem_of_getElem? (i := 0) rfl)
    obtain rfl : [fR x0, fI x1, fI x2] = w := Option.some.inj (show some [fR x0, fI x1, fI x2] = some w from e6)
    exact (fF_b (r := 1635) (by decide) rfl).mp e7
  clear m1 m2 m3 m4
  obtain ⟨a, l, x, N, pa, pt, e, ⟨wp, wt, un⟩, y1, y2, y3, y4⟩ := f0
  cases e
  obtain rfl : x4 = x2 := fI0 (by omega)
  have q0 : fB K n (p) 103 [fR x0, fI x3, fI x4] σ := by
    refine ⟨_, _, _, N, pa, pt, rfl, ⟨wp, wt, un⟩, fun j hj => y1 j (by omega), fun j hj => y2 j (by omega), fun h => ?_⟩
    rw [show x3.toInt.toNat = x1.toInt.toNat - 1 by omega]
    exact y3 (by omega)
  exact ⟨p, fun _ => rfl, ⟨(fun q h => by cases h), fun q h => (by cases h), (fun f h => by cases h), (aAllc ⟨_, rfl, (fF_b (r := 1651) (by decide) rfl).mpr q0⟩ (fun f h => by cases h))⟩, [], List.mem_cons_self, fun f h => (by cases h)⟩
set_option maxRecDepth 8192 in
theorem rw_ruPDc {K : Nat → Nat} {n : Nat} : aGho (fF K n) fa_T K n (fJX K n) ag_ruPDc := by
  refine aGho_of ⟨rfl, rfl⟩ ?_
  intro p σ ρ hH hX hA hM
  have hG := aAG_of hA.1 (fun i e v he hv => (hA.2 i e v he hv).1)
  clear hA
  obtain ⟨v0, v1, v2, v3, v4, v5, rfl, g0, g1, g2, g3, g4, g5⟩ := fA_6 hG
  clear hG
  obtain ⟨x0, rfl, b0, d0⟩ := fG_ref (by decide) g0
  obtain ⟨x1, rfl, b1, d1⟩ := aG_int g1
  dsimp only at b1 d1
  obtain ⟨x2, rfl, b2, d2⟩ := aG_int g2
  dsimp only at b2 d2
  obtain ⟨x3, rfl, b3, d3⟩ := aG_int g3
  dsimp only at b3 d3
  obtain ⟨x4, rfl, b4, d4⟩ := aG_int g4
  dsimp only at b4 d4
  obtain ⟨x5, rfl, b5, d5⟩ := fG_ref (by decide) g5
  obtain ⟨m1, m2, m3, m4⟩ := hM
  obtain ⟨a0, c0, fs0, w0, e1, s0, t0, e4⟩ := m1 (0, 1, 4) (List.mem_of_getElem? (i := 0) rfl)
  obtain rfl : x0 = a0 := Sum.inl.inj (Option.some.inj (Sum.inr.inj (Sum.inr.inj (Option.some.inj (show some (fR x0) = some _ from e1)))))
  obtain rfl : fI x4 = w0 := Option.some.inj (show some (fI x4) = some w0 from e4)
  clear e1 e4
  obtain ⟨a1, c1, fs1, w1, e1, s1, t1, e4⟩ := m1 (0, 12, 5) (List.mem_of_getElem? (i := 1) rfl)
  obtain rfl : x0 = a1 := Sum.inl.inj (Option.some.inj (Sum.inr.inj (Sum.inr.inj (Option.some.inj (show some (fR x0) = some _ from e1)))))
  obtain rfl : fR x5 = w1 := Option.some.inj (show some (fR x5) = some w1 from e4)
  clear e1 e4
  obtain ⟨a, mc0, ty0, gc0, ic0, e1, sc0, jc0, e4, e5⟩ := m2 (5, ([(1, 1)], 0), 3) (List.mem_of_getElem? (i := 0) rfl)
  obtain rfl : x5 = a := Sum.inl.inj (Option.some.inj (Sum.inr.inj (Sum.inr.inj (Option.some.inj (show some (fR x5) = some _ from e1)))))
  obtain ⟨gc0, rfl⟩ : ∃ g, gc0 = .inl g := by
    rcases gc0 with g | g
    · exact ⟨g, rfl⟩
    · exact absurd (show some (fI x3) = some (.inr (.inl (g ic0))) from e5) (fun h => by cases h)
  have sc0 : σ x5 = .inl (ty0, mc0, .inl gc0) := sc0
  have ec0 : x3 = gc0 ic0 := Sum.inl.inj (Option.some.inj (show some (fI x3) = some _ from e5))
  have kc0 : (ic0 : Int) = (1 * x1.toInt + 0) + 0 := by
    obtain ⟨z, e6, e7⟩ := e4
    obtain rfl : (1 * x1.toInt + 0) = z := Option.some.inj (show some (1 * x1.toInt + 0) = some z from e6)
    exact e7
  clear e1 e4 e5
  obtain rfl : ic0 = x1.toInt.toNat := by omega
  have l0 : 0 ≤ (1 * x1.toInt + 0) + 0 := by
    obtain ⟨z, e6, e7⟩ := m3 ([(1, 1)], 0) (List.mem_of_getElem? (i := 0) rfl)
    obtain rfl : (1 * x1.toInt + 0) = z := Option.some.inj (show some (1 * x1.toInt + 0) = some z from e6)
    exact e7
  have f0 : fB K n p 103 [fR x0, fI x1, fI x2] σ := by
    obtain ⟨w, e6, e7⟩ := m4 (1651, [0, 1, 2]) (List.mem_of_getElem? (i := 0) rfl)
    obtain rfl : [fR x0, fI x1, fI x2] = w := Option.some.inj (show some [fR x0, fI x1, fI x2] = some w from e6)
    exact (fF_b (r := 1651) (by decide) rfl).mp e7
  clear m1 m2 m3 m4
  obtain ⟨a, i, x, N, pa, pt, e, ⟨wp, wt, un⟩, y1, y2, y3⟩ := f0
  cases e
  obtain rfl := fFi_i un s0 t0
  obtain rfl := fRo_c wt s1 t1 sc0
  have hx := y1 x1.toInt.toNat (by omega)
  rw [← ec0] at hx
  have r0 : 0 ≤ (1 * x3.toInt + 0) + -1 := by
    omega
  have r1 : 0 ≤ (1 * x4.toInt + (-1 * x3.toInt + 0)) + 0 := by
    omega
  have q0 : fB K n (p) 104 [fR x0, fI x3, fI x2] σ := by
    exact ⟨_, _, _, _, pa, rfl, wp, un, by omega, by omega, by rw [ec0]; exact y3 (by omega)⟩
  exact ⟨p, fun _ => rfl, ⟨(fun q h => by cases h), fun q h => (by cases h), (aAllc ⟨_, rfl, r0⟩ (aAllc ⟨_, rfl, r1⟩ (fun f h => by cases h))), (aAllc ⟨_, rfl, (fF_b (r := 1667) (by decide) rfl).mpr q0⟩ (fun f h => by cases h))⟩, [], List.mem_cons_self, fun f h => (by cases h)⟩
set_option maxRecDepth 8192 in
theorem rw_ruPDs {K : Nat → Nat} {n : Nat} : aGho (fF K n) fa_T K n (fJX K n) ag_ruPDs := by
  refine aGho_of ⟨rfl, rfl⟩ ?_
  intro p σ ρ hH hX hA hM
  have hG := aAG_of hA.1 (fun i e v he hv => (hA.2 i e v he hv).1)
  clear hA
  obtain ⟨v0, v1, v2, v3, v4, v5, rfl, g0, g1, g2, g3, g4, g5⟩ := fA_6 hG
  clear hG
  obtain ⟨x0, rfl, b0, d0⟩ := fG_ref (by decide) g0
  obtain ⟨x1, rfl, b1, d1⟩ := aG_int g1
  dsimp only at b1 d1
  obtain ⟨x2, rfl, b2, d2⟩ := aG_int g2
  dsimp only at b2 d2
  obtain ⟨x3, rfl, b3, d3⟩ := aG_int g3
  dsimp only at b3 d3
  obtain ⟨x4, rfl, b4, d4⟩ := aG_int g4
  dsimp only at b4 d4
  obtain ⟨x5, rfl, b5, d5⟩ := fG_ref (by decide) g5
  obtain ⟨m1, m2, m3, m4⟩ := hM
  obtain ⟨a0, c0, fs0, w0, e1, s0, t0, e4⟩ := m1 (0, 12, 5) (List.mem_of_getElem? (i := 0) rfl)
  obtain rfl : x0 = a0 := Sum.inl.inj (Option.some.inj (Sum.inr.inj (Sum.inr.inj (Option.some.inj (show some (fR x0) = some _ from e1)))))
  obtain rfl : fR x5 = w0 := Option.some.inj (show some (fR x5) = some w0 from e4)
  clear e1 e4
  obtain ⟨a, mc0, ty0, gc0, ic0, e1, sc0, jc0, e4, e5⟩ := m2 (5, ([(1, 1)], 0), 3) (List.mem_of_getElem? (i := 0) rfl)
  obtain rfl : x5 = a := Sum.inl.inj (Option.some.inj (Sum.inr.inj (Sum.inr.inj (Option.some.inj (show some (fR x5) = some _ from e1)))))
  obtain ⟨gc0, rfl⟩ : ∃ g, gc0 = .inl g := by
    rcases gc0 with g | g
    · exact ⟨g, rfl⟩
    · exact absurd (show some (fI x3) = some (.inr (.inl (g ic0))) from e5) (fun h => by cases h)
  have sc0 : σ x5 = .inl (ty0, mc0, .inl gc0) := sc0
  have ec0 : x3 = gc0 ic0 := Sum.inl.inj (Option.some.inj (show some (fI x3) = some _ from e5))
  have kc0 : (ic0 : Int) = (1 * x1.toInt + 0) + 0 := by
    obtain ⟨z, e6, e7⟩ := e4
    obtain rfl : (1 * x1.toInt + 0) = z := Option.some.inj (show some (1 * x1.toInt + 0) = some z from e6)
    exact e7
  clear e1 e4 e5
  obtain rfl : ic0 = x1.toInt.toNat := by omega
  have l0 : 0 ≤ (1 * x1.toInt + 0) + 0 := by
    obtain ⟨z, e6, e7⟩ := m3 ([(1, 1)], 0) (List.mem_of_getElem? (i := 0) rfl)
    obtain rfl : (1 * x1.toInt + 0) = z := Option.some.inj (show some (1 * x1.toInt + 0) = some z from e6)
    exact e7
  have l1 : 0 ≤ (1 * x4.toInt + (-1 * x1.toInt + 0)) + 1 := by
    obtain ⟨z, e6, e7⟩ := m3 ([(4, 1), (1, -1)], 1) (List.mem_of_getElem? (i := 1) rfl)
    obtain rfl : (1 * x4.toInt + (-1 * x1.toInt + 0)) = z := Option.some.inj (show some (1 * x4.toInt + (-1 * x1.toInt + 0)) = some z from e6)
    exact e7
  have l2 : 0 ≤ (-1 * x4.toInt + (1 * x1.toInt + 0)) + -1 := by
    obtain ⟨z, e6, e7⟩ := m3 ([(4, -1), (1, 1)], -1) (List.mem_of_getElem? (i := 2) rfl)
    obtain rfl : (-1 * x4.toInt + (1 * x1.toInt + 0)) = z := Option.some.inj (show some (-1 * x4.toInt + (1 * x1.toInt + 0)) = some z from e6)
    exact e7
  have f0 : fB K n p 103 [fR x0, fI x1, fI x2] σ := by
    obtain ⟨w, e6, e7⟩ := m4 (1651, [0, 1, 2]) (List.mem_of_getElem? (i := 0) rfl)
    obtain rfl : [fR x0, fI x1, fI x2] = w := Option.some.inj (show some [fR x0, fI x1, fI x2] = some w from e6)
    exact (fF_b (r := 1651) (by decide) rfl).mp e7
  clear m1 m2 m3 m4
  obtain ⟨a, i, x, N, pa, pt, e, ⟨wp, wt, un⟩, y1, y2, y3⟩ := f0
  cases e
  obtain rfl := fRo_c wt s0 t0 sc0
  have q0 : fB K n (p) 103 [fR x0, fI x4, fI x3] σ := by
    refine ⟨_, _, _, N, pa, _, rfl, ⟨wp, wt, un⟩, fun j hj => y1 j (by omega), fun j hj => y2 j (by omega), fun h => ?_⟩
    rw [ec0, y2 x4.toInt.toNat (by omega), show x4.toInt.toNat + 1 = x1.toInt.toNat by omega]
  exact ⟨p, fun _ => rfl, ⟨(fun q h => by cases h), fun q h => (by cases h), (fun f h => by cases h), (aAllc ⟨_, rfl, (fF_b (r := 1651) (by decide) rfl).mpr q0⟩ (fun f h => by cases h))⟩, [], List.mem_cons_self, fun f h => (by cases h)⟩
set_option maxRecDepth 8192 in
theorem rw_ruTVe {K : Nat → Nat} {n : Nat} : aGho (fF K n) fa_T K n (fJX K n) ag_ruTVe := by
  refine aGho_of ⟨rfl, rfl⟩ ?_
  intro p σ ρ hH hX hA hM
  have hG := aAG_of hA.1 (fun i e v he hv => (hA.2 i e v he hv).1)
  clear hA
  obtain ⟨v0, v1, v2, v3, rfl, g0, g1, g2, g3⟩ := fA_4 hG
  clear hG
  obtain ⟨x0, rfl, b0, d0⟩ := fG_ref (by decide) g0
  obtain ⟨x1, rfl, b1, d1⟩ := aG_int g1
  dsimp only at b1 d1
  obtain ⟨x2, rfl, b2, d2⟩ := aG_int g2
  dsimp only at b2 d2
  obtain ⟨x3, rfl, b3, d3⟩ := aG_int g3
  dsimp only at b3 d3
  obtain ⟨m1, m2, m3, m4⟩ := hM
  have l0 : 0 ≤ (1 * x2.toInt + (-1 * x3.toInt + 0)) + 0 := by
    obtain ⟨z, e6, e7⟩ := m3 ([(2, 1), (3, -1)], 0) (List.mem_of_getElem? (i := 0) rfl)
    obtain rfl : (1 * x2.toInt + (-1 * x3.toInt + 0)) = z := Option.some.inj (show some (1 * x2.toInt + (-1 * x3.toInt + 0)) = some z from e6)
    exact e7
  have l1 : 0 ≤ (-1 * x2.toInt + (1 * x3.toInt + 0)) + 0 := by
    obtain ⟨z, e6, e7⟩ := m3 ([(2, -1), (3, 1)], 0) (List.mem_of_getElem? (i := 1) rfl)
    obtain rfl : (-1 * x2.toInt + (1 * x3.toInt + 0)) = z := Option.some.inj (show some (-1 * x2.toInt + (1 * x3.toInt + 0)) = some z from e6)
    exact e7
  have f0 : fB K n p 61 [fR x0, fI x1, fI x2] σ := by
    obtain ⟨w, e6, e7⟩ := m4 (979, [0, 1, 2]) (List.mem_of_getElem? (i := 0) rfl)
    obtain rfl : [fR x0, fI x1, fI x2] = w := Option.some.inj (show some [fR x0, fI x1, fI x2] = some w from e6)
    exact (fF_b (r := 979) (by decide) rfl).mp e7
  clear m1 m2 m3 m4
  obtain rfl : x3 = x2 := fI0 (by omega)
  have q0 : fB K n (p) 61 [fR x0, fI x1, fI x3] σ := by
    exact f0
  exact ⟨p, fun _ => rfl, ⟨(fun q h => by cases h), fun q h => (by cases h), (fun f h => by cases h), (aAllc ⟨_, rfl, (fF_b (r := 979) (by decide) rfl).mpr q0⟩ (fun f h => by cases h))⟩, [], List.mem_cons_self, fun f h => (by cases h)⟩
set_option maxRecDepth 8192 in
theorem rw_ruZ1 {K : Nat → Nat} {n : Nat} : aGho (fF K n) fa_T K n (fJX K n) ag_ruZ1 := by
  refine aGho_of ⟨rfl, rfl⟩ ?_
  intro p σ ρ hH hX hA hM
  have hG := aAG_of hA.1 (fun i e v he hv => (hA.2 i e v he hv).1)
  clear hA
  obtain ⟨v0, rfl, g0⟩ := fA_1 hG
  clear hG
  obtain ⟨x0, rfl, b0, d0⟩ := aG_int g0
  dsimp only at b0 d0
  obtain ⟨m1, m2, m3, m4⟩ := hM
  clear m1 m2 m3 m4
  have q0 : fB K n (p) 111 [fI x0] σ := by
    exact ⟨_, rfl⟩
  exact ⟨p, fun _ => rfl, ⟨(fun q h => by cases h), fun q h => (by cases h), (fun f h => by cases h), (aAllc ⟨_, rfl, (fF_b (r := 1777) (by decide) rfl).mpr q0⟩ (fun f h => by cases h))⟩, [], List.mem_cons_self, fun f h => (by cases h)⟩
set_option maxRecDepth 8192 in
theorem rw_ruZ2 {K : Nat → Nat} {n : Nat} : aGho (fF K n) fa_T K n (fJX K n) ag_ruZ2 := by
  refine aGho_of ⟨rfl, rfl⟩ ?_
  intro p σ ρ hH hX hA hM
  have hG := aAG_of hA.1 (fun i e v he hv => (hA.2 i e v he hv).1)
  clear hA
  obtain ⟨v0, rfl, g0⟩ := fA_1 hG
  clear hG
  obtain ⟨x0, rfl, b0, d0⟩ := aG_int g0
  dsimp only at b0 d0
  obtain ⟨m1, m2, m3, m4⟩ := hM
  clear m1 m2 m3 m4
  have q0 : fB K n (p) 112 [fI x0] σ := by
    exact ⟨_, rfl⟩
  exact ⟨p, fun _ => rfl, ⟨(fun q h => by cases h), fun q h => (by cases h), (fun f h => by cases h), (aAllc ⟨_, rfl, (fF_b (r := 1793) (by decide) rfl).mpr q0⟩ (fun f h => by cases h))⟩, [], List.mem_cons_self, fun f h => (by cases h)⟩
set_option maxRecDepth 8192 in
theorem rw_ruNW {K : Nat → Nat} {n : Nat} : aGho (fF K n) fa_T K n (fJX K n) ag_ruNW := by
  refine aGho_of ⟨rfl, rfl⟩ ?_
  intro p σ ρ hH hX hA hM
  have hG := aAG_of hA.1 (fun i e v he hv => (hA.2 i e v he hv).1)
  clear hA
  obtain ⟨v0, v1, v2, v3, v4, v5, v6, v7, v8, v9, v10, rfl, g0, g1, g2, g3, g4, g5, g6, g7, g8, g9, g10⟩ := fA_11 hG
  clear hG
  obtain ⟨x0, rfl, b0, d0⟩ := fG_ref (by decide) g0
  obtain ⟨x1, rfl, b1, d1⟩ := aG_int g1
  dsimp only at b1 d1
  obtain ⟨x2, rfl, b2, d2⟩ := aG_int g2
  dsimp only at b2 d2
  obtain ⟨x3, rfl, b3, d3⟩ := aG_int g3
  dsimp only at b3 d3
  obtain ⟨x4, rfl, b4, d4⟩ := aG_int g4
  dsimp only at b4 d4
  obtain ⟨x5, rfl, b5, d5⟩ := aG_int g5
  dsimp only at b5 d5
  obtain ⟨x6, rfl, b6, d6⟩ := fG_ref (by decide) g6
  obtain ⟨x7, rfl, b7, d7⟩ := fG_ref (by decide) g7
  obtain ⟨x8, rfl, b8, d8⟩ := fG_ref (by decide) g8
  obtain ⟨x9, rfl, b9, d9⟩ := fG_ref (by decide) g9
  obtain ⟨x10, rfl, b10, d10⟩ := fG_ref (by decide) g10
  obtain ⟨m1, m2, m3, m4⟩ := hM
  obtain ⟨a0, c0, fs0, w0, e1, s0, t0, e4⟩ := m1 (0, 3, 6) (List.mem_of_getElem? (i := 0) rfl)
  obtain rfl : x0 = a0 := Sum.inl.inj (Option.some.inj (Sum.inr.inj (Sum.inr.inj (Option.some.inj (show some (fR x0) = some _ from e1)))))
  obtain rfl : fR x6 = w0 := Option.some.inj (show some (fR x6) = some w0 from e4)
  clear e1 e4
  obtain ⟨a1, c1, fs1, w1, e1, s1, t1, e4⟩ := m1 (0, 4, 7) (List.mem_of_getElem? (i := 1) rfl)
  obtain rfl : x0 = a1 := Sum.inl.inj (Option.some.inj (Sum.inr.inj (Sum.inr.inj (Option.some.inj (show some (fR x0) = some _ from e1)))))
  obtain rfl : fR x7 = w1 := Option.some.inj (show some (fR x7) = some w1 from e4)
  clear e1 e4
  obtain ⟨a2, c2, fs2, w2, e1, s2, t2, e4⟩ := m1 (0, 5, 8) (List.mem_of_getElem? (i := 2) rfl)
  obtain rfl : x0 = a2 := Sum.inl.inj (Option.some.inj (Sum.inr.inj (Sum.inr.inj (Option.some.inj (show some (fR x0) = some _ from e1)))))
  obtain rfl : fR x8 = w2 := Option.some.inj (show some (fR x8) = some w2 from e4)
  clear e1 e4
  obtain ⟨a3, c3, fs3, w3, e1, s3, t3, e4⟩ := m1 (0, 6, 9) (List.mem_of_getElem? (i := 3) rfl)
  obtain rfl : x0 = a3 := Sum.inl.inj (Option.some.inj (Sum.inr.inj (Sum.inr.inj (Option.some.inj (show some (fR x0) = some _ from e1)))))
  obtain rfl : fR x9 = w3 := Option.some.inj (show some (fR x9) = some w3 from e4)
  clear e1 e4
  obtain ⟨a4, c4, fs4, w4, e1, s4, t4, e4⟩ := m1 (0, 7, 10) (List.mem_of_getElem? (i := 4) rfl)
  obtain rfl : x0 = a4 := Sum.inl.inj (Option.some.inj (Sum.inr.inj (Sum.inr.inj (Option.some.inj (show some (fR x0) = some _ from e1)))))
  obtain rfl : fR x10 = w4 := Option.some.inj (show some (fR x10) = some w4 from e4)
  clear e1 e4
  obtain ⟨a, mc0, ty0, gc0, ic0, e1, sc0, jc0, e4, e5⟩ := m2 (6, ([(1, 1)], 0), 2) (List.mem_of_getElem? (i := 0) rfl)
  obtain rfl : x6 = a := Sum.inl.inj (Option.some.inj (Sum.inr.inj (Sum.inr.inj (Option.some.inj (show some (fR x6) = some _ from e1)))))
  obtain ⟨gc0, rfl⟩ : ∃ g, gc0 = .inl g := by
    rcases gc0 with g | g
    · exact ⟨g, rfl⟩
    · exact absurd (show some (fI x2) = some (.inr (.inl (g ic0))) from e5) (fun h => by cases h)
  have sc0 : σ x6 = .inl (ty0, mc0, .inl gc0) := sc0
  have ec0 : x2 = gc0 ic0 := Sum.inl.inj (Option.some.inj (show some (fI x2) = some _ from e5))
  have kc0 : (ic0 : Int) = (1 * x1.toInt + 0) + 0 := by
    obtain ⟨z, e6, e7⟩ := e4
    obtain rfl : (1 * x1.toInt + 0) = z := Option.some.inj (show some (1 * x1.toInt + 0) = some z from e6)
    exact e7
  clear e1 e4 e5
  obtain rfl : ic0 = x1.toInt.toNat := by omega
  obtain ⟨a, mc1, ty1, gc1, ic1, e1, sc1, jc1, e4, e5⟩ := m2 (7, ([(1, 1)], 0), 3) (List.mem_of_getElem? (i := 1) rfl)
  obtain rfl : x7 = a := Sum.inl.inj (Option.some.inj (Sum.inr.inj (Sum.inr.inj (Option.some.inj (show some (fR x7) = some _ from e1)))))
  obtain ⟨gc1, rfl⟩ : ∃ g, gc1 = .inl g := by
    rcases gc1 with g | g
    · exact ⟨g, rfl⟩
    · exact absurd (show some (fI x3) = some (.inr (.inl (g ic1))) from e5) (fun h => by cases h)
  have sc1 : σ x7 = .inl (ty1, mc1, .inl gc1) := sc1
  have ec1 : x3 = gc1 ic1 := Sum.inl.inj (Option.some.inj (show some (fI x3) = some _ from e5))
  have kc1 : (ic1 : Int) = (1 * x1.toInt + 0) + 0 := by
    obtain ⟨z, e6, e7⟩ := e4
    obtain rfl : (1 * x1.toInt + 0) = z := Option.some.inj (show some (1 * x1.toInt + 0) = some z from e6)
    exact e7
  clear e1 e4 e5
  obtain rfl : ic1 = x1.toInt.toNat := by omega
  obtain ⟨a, mc2, ty2, gc2, ic2, e1, sc2, jc2, e4, e5⟩ := m2 (8, ([(1, 1)], 0), 4) (List.mem_of_getElem? (i := 2) rfl)
  obtain rfl : x8 = a := Sum.inl.inj (Option.some.inj (Sum.inr.inj (Sum.inr.inj (Option.some.inj (show some (fR x8) = some _ from e1)))))
  obtain ⟨gc2, rfl⟩ : ∃ g, gc2 = .inl g := by
    rcases gc2 with g | g
    · exact ⟨g, rfl⟩
    · exact absurd (show some (fI x4) = some (.inr (.inl (g ic2))) from e5) (fun h => by cases h)
  have sc2 : σ x8 = .inl (ty2, mc2, .inl gc2) := sc2
  have ec2 : x4 = gc2 ic2 := Sum.inl.inj (Option.some.inj (show some (fI x4) = some _ from e5))
  have kc2 : (ic2 : Int) = (1 * x1.toInt + 0) + 0 := by
    obtain ⟨z, e6, e7⟩ := e4
    obtain rfl : (1 * x1.toInt + 0) = z := Option.some.inj (show some (1 * x1.toInt + 0) = some z from e6)
    exact e7
  clear e1 e4 e5
  obtain rfl : ic2 = x1.toInt.toNat := by omega
  obtain ⟨a, mc3, ty3, gc3, ic3, e1, sc3, jc3, e4, e5⟩ := m2 (9, ([(1, 1)], 0), 5) (List.mem_of_getElem? (i := 3) rfl)
  obtain rfl : x9 = a := Sum.inl.inj (Option.some.inj (Sum.inr.inj (Sum.inr.inj (Option.some.inj (show some (fR x9) = some _ from e1)))))
  obtain ⟨gc3, rfl⟩ : ∃ g, gc3 = .inl g := by
    rcases gc3 with g | g
    · exact ⟨g, rfl⟩
    · exact absurd (show some (fI x5) = some (.inr (.inl (g ic3))) from e5) (fun h => by cases h)
  have sc3 : σ x9 = .inl (ty3, mc3, .inl gc3) := sc3
  have ec3 : x5 = gc3 ic3 := Sum.inl.inj (Option.some.inj (show some (fI x5) = some _ from e5))
  have kc3 : (ic3 : Int) = (1 * x1.toInt + 0) + 0 := by
    obtain ⟨z, e6, e7⟩ := e4
    obtain rfl : (1 * x1.toInt + 0) = z := Option.some.inj (show some (1 * x1.toInt + 0) = some z from e6)
    exact e7
  clear e1 e4 e5
  obtain rfl : ic3 = x1.toInt.toNat := by omega
  clear m1 m2 m3 m4
  obtain ⟨pa, wpa, epa⟩ := fRo_mk hH b0 d0 s0 t0 b6 d6 (q := ((0, 300), [])) rfl
  rw [sc0] at epa
  cases epa
  obtain ⟨mv, wmv, emv⟩ := fRo_mk hH b0 d0 s1 t1 b7 d7 (q := ((0, 32767), [])) rfl
  rw [sc1] at emv
  cases emv
  obtain ⟨fi, wfi, efi⟩ := fRo_mk hH b0 d0 s2 t2 b8 d8 (q := ((0, 300), [])) rfl
  rw [sc2] at efi
  cases efi
  obtain ⟨af, waf, eaf⟩ := fRo_mk hH b0 d0 s3 t3 b9 d9 (q := ((0, 300), [])) rfl
  rw [sc3] at eaf
  cases eaf
  obtain ⟨un, wun⟩ := fRl_mk hH b0 d0 s4 t4 b10 d10
  have q0 : fB K n (p) 107 [fR x0, fI x1, fI x2, fI x3] σ := by
    exact ⟨_, _, _, _, (gc0, gc1, gc2, gc3, un), rfl, ⟨wpa, wmv, wfi, waf, wun⟩, ec0.symm, ec1.symm, by show (gc2 _).toInt = 0; rw [← ec2]; omega, by show (gc3 _).toInt = 0; rw [← ec3]; omega⟩
  exact ⟨p, fun _ => rfl, ⟨(fun q h => by cases h), fun q h => (by cases h), (fun f h => by cases h), (aAllc ⟨_, rfl, (fF_b (r := 1716) (by decide) rfl).mpr q0⟩ (fun f h => by cases h))⟩, [], List.mem_cons_self, fun f h => (by cases h)⟩
set_option maxRecDepth 8192 in
theorem rw_ruCMa {K : Nat → Nat} {n : Nat} : aGho (fF K n) fa_T K n (fJX K n) ag_ruCMa := by
  refine aGho_of ⟨rfl, rfl⟩ ?_
  intro p σ ρ hH hX hA hM
  have hG := aAG_of hA.1 (fun i e v he hv => (hA.2 i e v he hv).1)
  clear hA
  obtain ⟨v0, v1, v2, v3, v4, v5, rfl, g0, g1, g2, g3, g4, g5⟩ := fA_6 hG
  clear hG
  obtain ⟨x0, rfl, b0, d0⟩ := fG_ref (by decide) g0
  obtain ⟨x1, rfl, b1, d1⟩ := aG_int g1
  dsimp only at b1 d1
  obtain ⟨x2, rfl, b2, d2⟩ := aG_int g2
  dsimp only at b2 d2
  obtain ⟨x3, rfl, b3, d3⟩ := aG_int g3
  dsimp only at b3 d3
  obtain ⟨x4, rfl, b4, d4⟩ := fG_ref (by decide) g4
  obtain ⟨x5, rfl, b5, d5⟩ := fG_ref (by decide) g5
  obtain ⟨m1, m2, m3, m4⟩ := hM
  obtain ⟨a0, c0, fs0, w0, e1, s0, t0, e4⟩ := m1 (0, 1, 1) (List.mem_of_getElem? (i := 0) rfl)
  obtain rfl : x0 = a0 := Sum.inl.inj (Option.some.inj (Sum.inr.inj (Sum.inr.inj (Option.some.inj (show some (fR x0) = some _ from e1)))))
  obtain rfl : fI x1 = w0 := Option.some.inj (show some (fI x1) = some w0 from e4)
  clear e1 e4
  obtain ⟨a1, c1, fs1, w1, e1, s1, t1, e4⟩ := m1 (0, 3, 4) (List.mem_of_getElem? (i := 1) rfl)
  obtain rfl : x0 = a1 := Sum.inl.inj (Option.some.inj (Sum.inr.inj (Sum.inr.inj (Option.some.inj (show some (fR x0) = some _ from e1)))))
  obtain rfl : fR x4 = w1 := Option.some.inj (show some (fR x4) = some w1 from e4)
  clear e1 e4
  obtain ⟨a2, c2, fs2, w2, e1, s2, t2, e4⟩ := m1 (0, 4, 5) (List.mem_of_getElem? (i := 2) rfl)
  obtain rfl : x0 = a2 := Sum.inl.inj (Option.some.inj (Sum.inr.inj (Sum.inr.inj (Option.some.inj (show some (fR x0) = some _ from e1)))))
  obtain rfl : fR x5 = w2 := Option.some.inj (show some (fR x5) = some w2 from e4)
  clear e1 e4
  obtain ⟨a, mc0, ty0, gc0, ic0, e1, sc0, jc0, e4, e5⟩ := m2 (4, ([(1, 1)], 0), 2) (List.mem_of_getElem? (i := 0) rfl)
  obtain rfl : x4 = a := Sum.inl.inj (Option.some.inj (Sum.inr.inj (Sum.inr.inj (Option.some.inj (show some (fR x4) = some _ from e1)))))
  obtain ⟨gc0, rfl⟩ : ∃ g, gc0 = .inl g := by
    rcases gc0 with g | g
    · exact ⟨g, rfl⟩
    · exact absurd (show some (fI x2) = some (.inr (.inl (g ic0))) from e5) (fun h => by cases h)
  have sc0 : σ x4 = .inl (ty0, mc0, .inl gc0) := sc0
  have ec0 : x2 = gc0 ic0 := Sum.inl.inj (Option.some.inj (show some (fI x2) = some _ from e5))
  have kc0 : (ic0 : Int) = (1 * x1.toInt + 0) + 0 := by
    obtain ⟨z, e6, e7⟩ := e4
    obtain rfl : (1 * x1.toInt + 0) = z := Option.some.inj (show some (1 * x1.toInt + 0) = some z from e6)
    exact e7
  clear e1 e4 e5
  obtain rfl : ic0 = x1.toInt.toNat := by omega
  obtain ⟨a, mc1, ty1, gc1, ic1, e1, sc1, jc1, e4, e5⟩ := m2 (5, ([(1, 1)], 0), 3) (List.mem_of_getElem? (i := 1) rfl)
  obtain rfl : x5 = a := Sum.inl.inj (Option.some.inj (Sum.inr.inj (Sum.inr.inj (Option.some.inj (show some (fR x5) = some _ from e1)))))
  obtain ⟨gc1, rfl⟩ : ∃ g, gc1 = .inl g := by
    rcases gc1 with g | g
    · exact ⟨g, rfl⟩
    · exact absurd (show some (fI x3) = some (.inr (.inl (g ic1))) from e5) (fun h => by cases h)
  have sc1 : σ x5 = .inl (ty1, mc1, .inl gc1) := sc1
  have ec1 : x3 = gc1 ic1 := Sum.inl.inj (Option.some.inj (show some (fI x3) = some _ from e5))
  have kc1 : (ic1 : Int) = (1 * x1.toInt + 0) + 0 := by
    obtain ⟨z, e6, e7⟩ := e4
    obtain rfl : (1 * x1.toInt + 0) = z := Option.some.inj (show some (1 * x1.toInt + 0) = some z from e6)
    exact e7
  clear e1 e4 e5
  obtain rfl : ic1 = x1.toInt.toNat := by omega
  have l0 : 0 ≤ (1 * x1.toInt + 0) + -1 := by
    obtain ⟨z, e6, e7⟩ := m3 ([(1, 1)], -1) (List.mem_of_getElem? (i := 0) rfl)
    obtain rfl : (1 * x1.toInt + 0) = z := Option.some.inj (show some (1 * x1.toInt + 0) = some z from e6)
    exact e7
  clear m1 m2 m3 m4
  obtain ⟨pa, wpa, epa⟩ := fRo_mk hH b0 d0 s1 t1 b4 d4 (q := ((0, 300), [])) rfl
  rw [sc0] at epa
  cases epa
  obtain ⟨mv, wmv, emv⟩ := fRo_mk hH b0 d0 s2 t2 b5 d5 (q := ((0, 32767), [])) rfl
  rw [sc1] at emv
  cases emv
  have q0 : fB K n (p) 105 [fR x0, fI x1, fI x2, fI x3] σ := by
    exact ⟨_, _, _, _, _, gc0, gc1, rfl, wpa, fFi_mk hH b0 d0 s0 t0, wmv, by omega, by omega, ec0.symm, ec1.symm⟩
  exact ⟨p, fun _ => rfl, ⟨(fun q h => by cases h), fun q h => (by cases h), (fun f h => by cases h), (aAllc ⟨_, rfl, (fF_b (r := 1684) (by decide) rfl).mpr q0⟩ (fun f h => by cases h))⟩, [], List.mem_cons_self, fun f h => (by cases h)⟩
set_option maxRecDepth 8192 in
theorem rw_ruAF {K : Nat → Nat} {n : Nat} : aGho (fF K n) fa_T K n (fJX K n) ag_ruAF := by
  refine aGho_of ⟨rfl, rfl⟩ ?_
  intro p σ ρ hH hX hA hM
  have hG := aAG_of hA.1 (fun i e v he hv => (hA.2 i e v he hv).1)
  clear hA
  obtain ⟨v0, v1, v2, v3, rfl, g0, g1, g2, g3⟩ := fA_4 hG
  clear hG
  obtain ⟨x0, rfl, b0, d0⟩ := fG_ref (by decide) g0
  obtain ⟨x1, rfl, b1, d1⟩ := aG_int g1
  dsimp only at b1 d1
  obtain ⟨x2, rfl, b2, d2⟩ := aG_int g2
  dsimp only at b2 d2
  obtain ⟨x3, rfl, b3, d3⟩ := fG_ref (by decide) g3
  obtain ⟨m1, m2, m3, m4⟩ := hM
  obtain ⟨a0, c0, fs0, w0, e1, s0, t0, e4⟩ := m1 (0, 6, 3) (List.mem_of_getElem? (i := 0) rfl)
  obtain rfl : x0 = a0 := Sum.inl.inj (Option.some.inj (Sum.inr.inj (Sum.inr.inj (Option.some.inj (show some (fR x0) = some _ from e1)))))
  obtain rfl : fR x3 = w0 := Option.some.inj (show some (fR x3) = some w0 from e4)
  clear e1 e4
  obtain ⟨a, mc0, ty0, gc0, ic0, e1, sc0, jc0, e4, e5⟩ := m2 (3, ([(1, 1)], 0), 2) (List.mem_of_getElem? (i := 0) rfl)
  obtain rfl : x3 = a := Sum.inl.inj (Option.some.inj (Sum.inr.inj (Sum.inr.inj (Option.some.inj (show some (fR x3) = some _ from e1)))))
  obtain ⟨gc0, rfl⟩ : ∃ g, gc0 = .inl g := by
    rcases gc0 with g | g
    · exact ⟨g, rfl⟩
    · exact absurd (show some (fI x2) = some (.inr (.inl (g ic0))) from e5) (fun h => by cases h)
  have sc0 : σ x3 = .inl (ty0, mc0, .inl gc0) := sc0
  have ec0 : x2 = gc0 ic0 := Sum.inl.inj (Option.some.inj (show some (fI x2) = some _ from e5))
  have kc0 : (ic0 : Int) = (1 * x1.toInt + 0) + 0 := by
    obtain ⟨z, e6, e7⟩ := e4
    obtain rfl : (1 * x1.toInt + 0) = z := Option.some.inj (show some (1 * x1.toInt + 0) = some z from e6)
    exact e7
  clear e1 e4 e5
  obtain rfl : ic0 = x1.toInt.toNat := by omega
  clear m1 m2 m3 m4
  obtain ⟨af, waf, eaf⟩ := fRo_mk hH b0 d0 s0 t0 b3 d3 (q := ((0, 300), [])) rfl
  rw [sc0] at eaf
  cases eaf
  have q0 : fB K n (p) 113 [fR x0, fI x1, fI x2] σ := by
    exact ⟨_, _, _, gc0, rfl, waf, ec0.symm⟩
  exact ⟨p, fun _ => rfl, ⟨(fun q h => by cases h), fun q h => (by cases h), (fun f h => by cases h), (aAllc ⟨_, rfl, (fF_b (r := 1811) (by decide) rfl).mpr q0⟩ (fun f h => by cases h))⟩, [], List.mem_cons_self, fun f h => (by cases h)⟩
set_option maxRecDepth 8192 in
theorem rw_ruAD1 {K : Nat → Nat} {n : Nat} : aGho (fF K n) fa_T K n (fJX K n) ag_ruAD1 := by
  refine aGho_of ⟨rfl, rfl⟩ ?_
  intro p σ ρ hH hX hA hM
  have hG := aAG_of hA.1 (fun i e v he hv => (hA.2 i e v he hv).1)
  clear hA
  obtain ⟨v0, v1, v2, v3, v4, v5, v6, rfl, g0, g1, g2, g3, g4, g5, g6⟩ := fA_7 hG
  clear hG
  obtain ⟨x0, rfl, b0, d0⟩ := fG_ref (by decide) g0
  obtain ⟨x1, rfl, b1, d1⟩ := aG_int g1
  dsimp only at b1 d1
  obtain ⟨x2, rfl, b2, d2⟩ := aG_int g2
  dsimp only at b2 d2
  obtain ⟨x3, rfl, b3, d3⟩ := aG_int g3
  dsimp only at b3 d3
  obtain ⟨x4, rfl, b4, d4⟩ := aG_int g4
  dsimp only at b4 d4
  obtain ⟨x5, rfl, b5, d5⟩ := fG_ref (by decide) g5
  obtain ⟨x6, rfl, b6, d6⟩ := aG_int g6
  dsimp only at b6 d6
  obtain ⟨m1, m2, m3, m4⟩ := hM
  obtain ⟨a0, c0, fs0, w0, e1, s0, t0, e4⟩ := m1 (0, 5, 5) (List.mem_of_getElem? (i := 0) rfl)
  obtain rfl : x0 = a0 := Sum.inl.inj (Option.some.inj (Sum.inr.inj (Sum.inr.inj (Option.some.inj (show some (fR x0) = some _ from e1)))))
  obtain rfl : fR x5 = w0 := Option.some.inj (show some (fR x5) = some w0 from e4)
  clear e1 e4
  obtain ⟨a, mc0, ty0, gc0, ic0, e1, sc0, jc0, e4, e5⟩ := m2 (5, ([(1, 1)], 0), 6) (List.mem_of_getElem? (i := 0) rfl)
  obtain rfl : x5 = a := Sum.inl.inj (Option.some.inj (Sum.inr.inj (Sum.inr.inj (Option.some.inj (show some (fR x5) = some _ from e1)))))
  obtain ⟨gc0, rfl⟩ : ∃ g, gc0 = .inl g := by
    rcases gc0 with g | g
    · exact ⟨g, rfl⟩
    · exact absurd (show some (fI x6) = some (.inr (.inl (g ic0))) from e5) (fun h => by cases h)
  have sc0 : σ x5 = .inl (ty0, mc0, .inl gc0) := sc0
  have ec0 : x6 = gc0 ic0 := Sum.inl.inj (Option.some.inj (show some (fI x6) = some _ from e5))
  have kc0 : (ic0 : Int) = (1 * x1.toInt + 0) + 0 := by
    obtain ⟨z, e6, e7⟩ := e4
    obtain rfl : (1 * x1.toInt + 0) = z := Option.some.inj (show some (1 * x1.toInt + 0) = some z from e6)
    exact e7
  clear e1 e4 e5
  obtain rfl : ic0 = x1.toInt.toNat := by omega
  have l0 : 0 ≤ (-1 * x6.toInt + 0) + 0 := by
    obtain ⟨z, e6, e7⟩ := m3 ([(6, -1)], 0) (List.mem_of_getElem? (i := 0) rfl)
    obtain rfl : (-1 * x6.toInt + 0) = z := Option.some.inj (show some (-1 * x6.toInt + 0) = some z from e6)
    exact e7
  have l1 : 0 ≤ (-1 * x2.toInt + 0) + 299 := by
    obtain ⟨z, e6, e7⟩ := m3 ([(2, -1)], 299) (List.mem_of_getElem? (i := 1) rfl)
    obtain rfl : (-1 * x2.toInt + 0) = z := Option.some.inj (show some (-1 * x2.toInt + 0) = some z from e6)
    exact e7
  have l2 : 0 ≤ (1 * x3.toInt + (-1 * x2.toInt + 0)) + -1 := by
    obtain ⟨z, e6, e7⟩ := m3 ([(3, 1), (2, -1)], -1) (List.mem_of_getElem? (i := 2) rfl)
    obtain rfl : (1 * x3.toInt + (-1 * x2.toInt + 0)) = z := Option.some.inj (show some (1 * x3.toInt + (-1 * x2.toInt + 0)) = some z from e6)
    exact e7
  have l3 : 0 ≤ (-1 * x3.toInt + (1 * x2.toInt + 0)) + 1 := by
    obtain ⟨z, e6, e7⟩ := m3 ([(3, -1), (2, 1)], 1) (List.mem_of_getElem? (i := 3) rfl)
    obtain rfl : (-1 * x3.toInt + (1 * x2.toInt + 0)) = z := Option.some.inj (show some (-1 * x3.toInt + (1 * x2.toInt + 0)) = some z from e6)
    exact e7
  have f0 : fB K n p 61 [fR x0, fI x1, fI x2] σ := by
    obtain ⟨w, e6, e7⟩ := m4 (979, [0, 1, 2]) (List.mem_of_getElem? (i := 0) rfl)
    obtain rfl : [fR x0, fI x1, fI x2] = w := Option.some.inj (show some [fR x0, fI x1, fI x2] = some w from e6)
    exact (fF_b (r := 979) (by decide) rfl).mp e7
  have f1 : fB K n p 107 [fR x0, fI x3, fI x1, fI x4] σ := by
    obtain ⟨w, e6, e7⟩ := m4 (1716, [0, 3, 1, 4]) (List.mem_of_getElem? (i := 1) rfl)
    obtain rfl : [fR x0, fI x3, fI x1, fI x4] = w := Option.some.inj (show some [fR x0, fI x3, fI x1, fI x4] = some w from e6)
    exact (fF_b (r := 1716) (by decide) rfl).mp e7
  have f2 : fB K n p 3 [fI x4] σ := by
    obtain ⟨w, e6, e7⟩ := m4 (49, [4]) (List.mem_of_getElem? (i := 2) rfl)
    obtain rfl : [fI x4] = w := Option.some.inj (show some [fI x4] = some w from e6)
    exact (fF_b (r := 49) (by decide) rfl).mp e7
  clear m1 m2 m3 m4
  obtain ⟨a, h, N, t, e, w, h0, N0, ⟨q, hq⟩, H⟩ := f0
  cases e
  subst hq
  obtain ⟨a8, c8, h8, m8, t8, e8, w8, p8, k8, z8, y8⟩ := f1
  cases e8
  obtain rfl := fTw_u w8 w
  obtain ⟨m9, e9, M⟩ := f2
  cases e9
  have hG := fGood_pl (fTk_good H).1 M
  have hN := fTk_le H
  obtain rfl := fRo_c w.2.2.1 s0 t0 sc0
  have q0 : fB K n (.inl q) 61 [fR x0, fI x1, fI x3] (jup σ x5 (jsto (σ x5) x1.toNatClampNeg x3)) := by
    have hg : ¬ K x5 = 25 := by rw [d5]; decide
    have hk : ∀ k, ¬ k = 40 → ¬ K x5 = k := fun k h e => h (by rw [← e]; exact d5)
    refine ⟨_, _, _, (t8.1, t8.2.1, upd t8.2.2.1 x1.toInt.toNat x3, t8.2.2.2.1, t8.2.2.2.2), rfl, ⟨fRo_ne w.1 hg (hk _ (by decide)), fRo_ne w.2.1 hg (hk _ (by decide)), fRo_st w.2.2.1 s0 t0 (by decide), fRo_ne w.2.2.2.1 hg (hk _ (by decide)), fRl_ne w.2.2.2.2 hg (hk _ (by decide))⟩, h0, by omega, ⟨q, rfl⟩, ?_⟩
    rw [show x3.toInt.toNat = x2.toInt.toNat + 1 by omega] at p8 k8 z8 y8 ⊢
    refine fTk_add H (by omega) M hG (fun k _ => rfl) (fun k _ => rfl) rfl (by rw [p8]; omega) k8 ?_ (fun k _ hk9 => ?_) (fun k _ _ => rfl) (fun L n1 c1 l1 => ?_)
    · show (upd t8.2.2.1 x1.toInt.toNat x3 (x2.toInt.toNat + 1)).toInt = 0
      unfold upd
      rw [if_neg (by omega)]
      exact z8
    · show upd t8.2.2.1 x1.toInt.toNat x3 k = t8.2.2.1 k
      unfold upd
      rw [if_neg hk9]
    · have hx0 : (t8.2.2.1 x1.toInt.toNat).toInt = 0 := by rw [← ec0]; omega
      show fCn t8.2.2.2.1 (upd t8.2.2.1 x1.toInt.toNat x3 x1.toInt.toNat).toInt _
      have e9 : upd t8.2.2.1 x1.toInt.toNat x3 x1.toInt.toNat = x3 := by unfold upd; rw [if_pos rfl]
      rw [e9]
      cases L with
      | nil => exact ⟨by omega, y8⟩
      | cons c r =>
        have h1 := c1.1
        have h2 := (l1 c List.mem_cons_self).1
        omega
  exact ⟨.inl q, fun _ => rfl, ⟨(fun q h => by cases h), fun q h => (by cases h), (fun f h => by cases h), (aAllc ⟨_, rfl, fF_p (r := 979) (by decide) (by decide) rfl q0⟩ (fun f h => by cases h))⟩, [], List.mem_cons_self, fun f h => (by cases h)⟩
set_option maxRecDepth 8192 in
theorem rw_ruAD2 {K : Nat → Nat} {n : Nat} : aGho (fF K n) fa_T K n (fJX K n) ag_ruAD2 := by
  refine aGho_of ⟨rfl, rfl⟩ ?_
  intro p σ ρ hH hX hA hM
  have hG := aAG_of hA.1 (fun i e v he hv => (hA.2 i e v he hv).1)
  clear hA
  obtain ⟨v0, v1, v2, v3, v4, v5, v6, v7, v8, rfl, g0, g1, g2, g3, g4, g5, g6, g7, g8⟩ := fA_9 hG
  clear hG
  obtain ⟨x0, rfl, b0, d0⟩ := fG_ref (by decide) g0
  obtain ⟨x1, rfl, b1, d1⟩ := aG_int g1
  dsimp only at b1 d1
  obtain ⟨x2, rfl, b2, d2⟩ := aG_int g2
  dsimp only at b2 d2
  obtain ⟨x3, rfl, b3, d3⟩ := aG_int g3
  dsimp only at b3 d3
  obtain ⟨x4, rfl, b4, d4⟩ := aG_int g4
  dsimp only at b4 d4
  obtain ⟨x5, rfl, b5, d5⟩ := fG_ref (by decide) g5
  obtain ⟨x6, rfl, b6, d6⟩ := aG_int g6
  dsimp only at b6 d6
  obtain ⟨x7, rfl, b7, d7⟩ := aG_int g7
  dsimp only at b7 d7
  obtain ⟨x8, rfl, b8, d8⟩ := aG_int g8
  dsimp only at b8 d8
  obtain ⟨m1, m2, m3, m4⟩ := hM
  obtain ⟨a0, c0, fs0, w0, e1, s0, t0, e4⟩ := m1 (0, 6, 5) (List.mem_of_getElem? (i := 0) rfl)
  obtain rfl : x0 = a0 := Sum.inl.inj (Option.some.inj (Sum.inr.inj (Sum.inr.inj (Option.some.inj (show some (fR x0) = some _ from e1)))))
  obtain rfl : fR x5 = w0 := Option.some.inj (show some (fR x5) = some w0 from e4)
  clear e1 e4
  have l0 : 0 ≤ (-1 * x7.toInt + 0) + 0 := by
    obtain ⟨z, e6, e7⟩ := m3 ([(7, -1)], 0) (List.mem_of_getElem? (i := 0) rfl)
    obtain rfl : (-1 * x7.toInt + 0) = z := Option.some.inj (show some (-1 * x7.toInt + 0) = some z from e6)
    exact e7
  have l1 : 0 ≤ (-1 * x2.toInt + 0) + 299 := by
    obtain ⟨z, e6, e7⟩ := m3 ([(2, -1)], 299) (List.mem_of_getElem? (i := 1) rfl)
    obtain rfl : (-1 * x2.toInt + 0) = z := Option.some.inj (show some (-1 * x2.toInt + 0) = some z from e6)
    exact e7
  have l2 : 0 ≤ (1 * x6.toInt + 0) + -1 := by
    obtain ⟨z, e6, e7⟩ := m3 ([(6, 1)], -1) (List.mem_of_getElem? (i := 2) rfl)
    obtain rfl : (1 * x6.toInt + 0) = z := Option.some.inj (show some (1 * x6.toInt + 0) = some z from e6)
    exact e7
  have l3 : 0 ≤ (1 * x3.toInt + (-1 * x2.toInt + 0)) + -1 := by
    obtain ⟨z, e6, e7⟩ := m3 ([(3, 1), (2, -1)], -1) (List.mem_of_getElem? (i := 3) rfl)
    obtain rfl : (1 * x3.toInt + (-1 * x2.toInt + 0)) = z := Option.some.inj (show some (1 * x3.toInt + (-1 * x2.toInt + 0)) = some z from e6)
    exact e7
  have l4 : 0 ≤ (-1 * x3.toInt + (1 * x2.toInt + 0)) + 1 := by
    obtain ⟨z, e6, e7⟩ := m3 ([(3, -1), (2, 1)], 1) (List.mem_of_getElem? (i := 4) rfl)
    obtain rfl : (-1 * x3.toInt + (1 * x2.toInt + 0)) = z := Option.some.inj (show some (-1 * x3.toInt + (1 * x2.toInt + 0)) = some z from e6)
    exact e7
  have f0 : fB K n p 61 [fR x0, fI x1, fI x2] σ := by
    obtain ⟨w, e6, e7⟩ := m4 (979, [0, 1, 2]) (List.mem_of_getElem? (i := 0) rfl)
    obtain rfl : [fR x0, fI x1, fI x2] = w := Option.some.inj (show some [fR x0, fI x1, fI x2] = some w from e6)
    exact (fF_b (r := 979) (by decide) rfl).mp e7
  have f1 : fB K n p 107 [fR x0, fI x3, fI x1, fI x4] σ := by
    obtain ⟨w, e6, e7⟩ := m4 (1716, [0, 3, 1, 4]) (List.mem_of_getElem? (i := 1) rfl)
    obtain rfl : [fR x0, fI x3, fI x1, fI x4] = w := Option.some.inj (show some [fR x0, fI x3, fI x1, fI x4] = some w from e6)
    exact (fF_b (r := 1716) (by decide) rfl).mp e7
  have f2 : fB K n p 3 [fI x4] σ := by
    obtain ⟨w, e6, e7⟩ := m4 (49, [4]) (List.mem_of_getElem? (i := 2) rfl)
    obtain rfl : [fI x4] = w := Option.some.inj (show some [fI x4] = some w from e6)
    exact (fF_b (r := 49) (by decide) rfl).mp e7
  have f3 : fB K n p 106 [fR x0, fI x1, fI x6, fI x8] σ := by
    obtain ⟨w, e6, e7⟩ := m4 (1700, [0, 1, 6, 8]) (List.mem_of_getElem? (i := 3) rfl)
    obtain rfl : [fR x0, fI x1, fI x6, fI x8] = w := Option.some.inj (show some [fR x0, fI x1, fI x6, fI x8] = some w from e6)
    exact (fF_b (r := 1700) (by decide) rfl).mp e7
  have f4 : fB K n p 113 [fR x0, fI x6, fI x7] σ := by
    obtain ⟨w, e6, e7⟩ := m4 (1811, [0, 6, 7]) (List.mem_of_getElem? (i := 4) rfl)
    obtain rfl : [fR x0, fI x6, fI x7] = w := Option.some.inj (show some [fR x0, fI x6, fI x7] = some w from e6)
    exact (fF_b (r := 1811) (by decide) rfl).mp e7
  clear m1 m2 m3 m4
  obtain ⟨a, h, N, t, e, w, h0, N0, ⟨q, hq⟩, H⟩ := f0
  cases e
  subst hq
  obtain ⟨a8, c8, h8, m8, t8, e8, w8, p8, k8, z8, y8⟩ := f1
  cases e8
  obtain rfl := fTw_u w8 w
  obtain ⟨m9, e9, M⟩ := f2
  cases e9
  have hG := fGood_pl (fTk_good H).1 M
  have hN := fTk_le H
  obtain ⟨a6, h6, c6, i6, N6, pa6, fi6, af6, L, e6, w6, y6, z6, u6, n6a, n6b, L1, L2, L3, i6a, L4⟩ := f3
  cases e6
  obtain ⟨a7, c7, v7, af7, e7, w7, k7⟩ := f4
  cases e7
  obtain rfl := fRo_u w7 w.2.2.2.1
  obtain rfl := fRo_u z6 w.2.2.2.1
  obtain rfl := fRo_u y6 w.2.2.1
  have q0 : fB K n (.inl q) 61 [fR x0, fI x1, fI x3] (jup σ x5 (jsto (σ x5) x6.toNatClampNeg x3)) := by
    have hg : ¬ K x5 = 25 := by rw [d5]; decide
    have hk : ∀ k, ¬ k = 41 → ¬ K x5 = k := fun k h e => h (by rw [← e]; exact d5)
    refine ⟨_, _, _, (t8.1, t8.2.1, t8.2.2.1, upd t8.2.2.2.1 x6.toInt.toNat x3, t8.2.2.2.2), rfl, ⟨fRo_ne w.1 hg (hk _ (by decide)), fRo_ne w.2.1 hg (hk _ (by decide)), fRo_ne w.2.2.1 hg (hk _ (by decide)), fRo_st w.2.2.2.1 s0 t0 (by decide), fRl_ne w.2.2.2.2 hg (hk _ (by decide))⟩, h0, by omega, ⟨q, rfl⟩, ?_⟩
    rw [show x3.toInt.toNat = x2.toInt.toNat + 1 by omega] at p8 k8 z8 y8 ⊢
    obtain ⟨-, c, hc, ec⟩ := fCn_drop L4 (fun c hc => (L3 c hc).1) (by omega) rfl
    obtain ⟨y1, y2, y3⟩ := L3 c hc
    obtain rfl := fRo_u w6 w.1
    have hc6 : x6.toInt.toNat = c := by omega
    refine fTk_add H (by omega) M hG (fun k _ => rfl) (fun k _ => rfl) rfl (by rw [p8]; omega) k8 z8 (fun k _ _ => rfl) (fun k hk8 hk9 => ?_) (fun L n1 c1 l1 => ?_)
    · show upd t8.2.2.2.1 x6.toInt.toNat x3 k = t8.2.2.2.1 k
      unfold upd
      rw [if_neg (fun e => hk9 (by rw [e, hc6, y3]; omega))]
    · have eL : L = _ := fCn_uq c1 L2 (fun d hd => (l1 d hd).1) (fun d hd => (L3 d hd).1)
      subst eL
      refine fCn_app (N := x2.toInt.toNat) c1 n1 (fun d hd => ⟨(l1 d hd).2, (l1 d hd).1⟩) (fun d hd h9 => ?_) (fun d hd h9 => ?_) ?_ (fun h9 => ?_) (fun _ => rfl)
      · show upd t8.2.2.2.1 x6.toInt.toNat x3 d = t8.2.2.2.1 d
        unfold upd
        split
        next e => subst e; rw [k7] at h9; exact absurd (by omega) h9
        next => rfl
      · show (upd t8.2.2.2.1 x6.toInt.toNat x3 d).toInt = _
        have e9 : d = x6.toInt.toNat := fCn_last c1 n1 (fun d hd => (l1 d hd).1) hd (by rw [hc6]; exact hc) h9 (by rw [k7]; omega)
        unfold upd
        rw [if_pos e9]
        omega
      · show (upd t8.2.2.2.1 x6.toInt.toNat x3 (x2.toInt.toNat + 1)).toInt = 0
        have : x6.toInt.toNat ≤ x2.toInt.toNat := by have := (l1 c hc).2; omega
        unfold upd
        rw [if_neg (by omega)]
        exact y8
      · exfalso
        cases L with
        | nil => cases hc
        | cons d r =>
          have h1 : (t8.2.2.1 x1.toInt.toNat).toInt = (d : Int) := c1.1
          have h2 := (l1 d List.mem_cons_self).1
          omega
  exact ⟨.inl q, fun _ => rfl, ⟨(fun q h => by cases h), fun q h => (by cases h), (fun f h => by cases h), (aAllc ⟨_, rfl, fF_p (r := 979) (by decide) (by decide) rfl q0⟩ (fun f h => by cases h))⟩, [], List.mem_cons_self, fun f h => (by cases h)⟩
set_option maxRecDepth 8192 in
theorem rw_ruLD1 {K : Nat → Nat} {n : Nat} : aGho (fF K n) fa_T K n (fJX K n) ag_ruLD1 := by
  refine aGho_of ⟨rfl, rfl⟩ ?_
  intro p σ ρ hH hX hA hM
  have hG := aAG_of hA.1 (fun i e v he hv => (hA.2 i e v he hv).1)
  clear hA
  obtain ⟨v0, v1, v2, v3, v4, v5, v6, v7, v8, v9, v10, rfl, g0, g1, g2, g3, g4, g5, g6, g7, g8, g9, g10⟩ := fA_11 hG
  clear hG
  obtain ⟨x0, rfl, b0, d0⟩ := fG_ref (by decide) g0
  obtain ⟨x1, rfl, b1, d1⟩ := aG_int g1
  dsimp only at b1 d1
  obtain ⟨x2, rfl, b2, d2⟩ := aG_int g2
  dsimp only at b2 d2
  obtain ⟨x3, rfl, b3, d3⟩ := aG_int g3
  dsimp only at b3 d3
  obtain ⟨x4, rfl, b4, d4⟩ := aG_int g4
  dsimp only at b4 d4
  obtain ⟨x5, rfl, b5, d5⟩ := aG_int g5
  dsimp only at b5 d5
  obtain ⟨x6, rfl, b6, d6⟩ := aG_int g6
  dsimp only at b6 d6
  obtain ⟨x7, rfl, b7, d7⟩ := aG_int g7
  dsimp only at b7 d7
  obtain ⟨x8, rfl, b8, d8⟩ := aG_int g8
  dsimp only at b8 d8
  obtain ⟨x9, rfl, b9, d9⟩ := fG_ref (by decide) g9
  obtain ⟨x10, rfl, b10, d10⟩ := fG_ref (by decide) g10
  obtain ⟨m1, m2, m3, m4⟩ := hM
  obtain ⟨a0, c0, fs0, w0, e1, s0, t0, e4⟩ := m1 (0, 6, 9) (List.mem_of_getElem? (i := 0) rfl)
  obtain rfl : x0 = a0 := Sum.inl.inj (Option.some.inj (Sum.inr.inj (Sum.inr.inj (Option.some.inj (show some (fR x0) = some _ from e1)))))
  obtain rfl : fR x9 = w0 := Option.some.inj (show some (fR x9) = some w0 from e4)
  clear e1 e4
  obtain ⟨a1, c1, fs1, w1, e1, s1, t1, e4⟩ := m1 (0, 5, 10) (List.mem_of_getElem? (i := 1) rfl)
  obtain rfl : x0 = a1 := Sum.inl.inj (Option.some.inj (Sum.inr.inj (Sum.inr.inj (Option.some.inj (show some (fR x0) = some _ from e1)))))
  obtain rfl : fR x10 = w1 := Option.some.inj (show some (fR x10) = some w1 from e4)
  clear e1 e4
  obtain ⟨a, mc0, ty0, gc0, ic0, e1, sc0, jc0, e4, e5⟩ := m2 (9, ([(4, 1)], 0), 8) (List.mem_of_getElem? (i := 0) rfl)
  obtain rfl : x9 = a := Sum.inl.inj (Option.some.inj (Sum.inr.inj (Sum.inr.inj (Option.some.inj (show some (fR x9) = some _ from e1)))))
  obtain ⟨gc0, rfl⟩ : ∃ g, gc0 = .inl g := by
    rcases gc0 with g | g
    · exact ⟨g, rfl⟩
    · exact absurd (show some (fI x8) = some (.inr (.inl (g ic0))) from e5) (fun h => by cases h)
  have sc0 : σ x9 = .inl (ty0, mc0, .inl gc0) := sc0
  have ec0 : x8 = gc0 ic0 := Sum.inl.inj (Option.some.inj (show some (fI x8) = some _ from e5))
  have kc0 : (ic0 : Int) = (1 * x4.toInt + 0) + 0 := by
    obtain ⟨z, e6, e7⟩ := e4
    obtain rfl : (1 * x4.toInt + 0) = z := Option.some.inj (show some (1 * x4.toInt + 0) = some z from e6)
    exact e7
  clear e1 e4 e5
  obtain rfl : ic0 = x4.toInt.toNat := by omega
  have l0 : 0 ≤ (1 * x4.toInt + 0) + -1 := by
    obtain ⟨z, e6, e7⟩ := m3 ([(4, 1)], -1) (List.mem_of_getElem? (i := 0) rfl)
    obtain rfl : (1 * x4.toInt + 0) = z := Option.some.inj (show some (1 * x4.toInt + 0) = some z from e6)
    exact e7
  have l1 : 0 ≤ (1 * x5.toInt + 0) + -1 := by
    obtain ⟨z, e6, e7⟩ := m3 ([(5, 1)], -1) (List.mem_of_getElem? (i := 1) rfl)
    obtain rfl : (1 * x5.toInt + 0) = z := Option.some.inj (show some (1 * x5.toInt + 0) = some z from e6)
    exact e7
  have l2 : 0 ≤ (1 * x2.toInt + (-1 * x4.toInt + 0)) + 0 := by
    obtain ⟨z, e6, e7⟩ := m3 ([(2, 1), (4, -1)], 0) (List.mem_of_getElem? (i := 2) rfl)
    obtain rfl : (1 * x2.toInt + (-1 * x4.toInt + 0)) = z := Option.some.inj (show some (1 * x2.toInt + (-1 * x4.toInt + 0)) = some z from e6)
    exact e7
  have l3 : 0 ≤ (1 * x6.toInt + (-1 * x4.toInt + 0)) + 0 := by
    obtain ⟨z, e6, e7⟩ := m3 ([(6, 1), (4, -1)], 0) (List.mem_of_getElem? (i := 3) rfl)
    obtain rfl : (1 * x6.toInt + (-1 * x4.toInt + 0)) = z := Option.some.inj (show some (1 * x6.toInt + (-1 * x4.toInt + 0)) = some z from e6)
    exact e7
  have l4 : 0 ≤ (-1 * x6.toInt + (1 * x4.toInt + 0)) + 0 := by
    obtain ⟨z, e6, e7⟩ := m3 ([(6, -1), (4, 1)], 0) (List.mem_of_getElem? (i := 4) rfl)
    obtain rfl : (-1 * x6.toInt + (1 * x4.toInt + 0)) = z := Option.some.inj (show some (-1 * x6.toInt + (1 * x4.toInt + 0)) = some z from e6)
    exact e7
  have f0 : fB K n p 61 [fR x0, fI x1, fI x2] σ := by
    obtain ⟨w, e6, e7⟩ := m4 (979, [0, 1, 2]) (List.mem_of_getElem? (i := 0) rfl)
    obtain rfl : [fR x0, fI x1, fI x2] = w := Option.some.inj (show some [fR x0, fI x1, fI x2] = some w from e6)
    exact (fF_b (r := 979) (by decide) rfl).mp e7
  have f1 : fB K n p 106 [fR x0, fI x3, fI x5, fI x7] σ := by
    obtain ⟨w, e6, e7⟩ := m4 (1700, [0, 3, 5, 7]) (List.mem_of_getElem? (i := 1) rfl)
    obtain rfl : [fR x0, fI x3, fI x5, fI x7] = w := Option.some.inj (show some [fR x0, fI x3, fI x5, fI x7] = some w from e6)
    exact (fF_b (r := 1700) (by decide) rfl).mp e7
  have f2 : fB K n p 113 [fR x0, fI x5, fI x6] σ := by
    obtain ⟨w, e6, e7⟩ := m4 (1811, [0, 5, 6]) (List.mem_of_getElem? (i := 2) rfl)
    obtain rfl : [fR x0, fI x5, fI x6] = w := Option.some.inj (show some [fR x0, fI x5, fI x6] = some w from e6)
    exact (fF_b (r := 1811) (by decide) rfl).mp e7
  have f3 : fB K n p 104 [fR x0, fI x4, fI x3] σ := by
    obtain ⟨w, e6, e7⟩ := m4 (1667, [0, 4, 3]) (List.mem_of_getElem? (i := 3) rfl)
    obtain rfl : [fR x0, fI x4, fI x3] = w := Option.some.inj (show some [fR x0, fI x4, fI x3] = some w from e6)
    exact (fF_b (r := 1667) (by decide) rfl).mp e7
  clear m1 m2 m3 m4
  obtain ⟨a, h, N, t, e, w, h0, N0, ⟨q, hq⟩, H⟩ := f0
  cases e
  subst hq
  obtain ⟨a6, h6, c6, i6, N6, pa6, fi6, af6, L, e6, w6, y6, z6, u6, n6a, n6b, L1, L2, L3, i6a, L4⟩ := f1
  cases e6
  obtain ⟨a7, c7, v7, af7, e7, w7, k7⟩ := f2
  cases e7
  obtain ⟨a4, c4, h4, N4, pa4, e4, w4, u4, l4a, l4b, p4⟩ := f3
  cases e4
  obtain rfl := fRo_u w7 w.2.2.2.1
  obtain rfl := fRo_u z6 w.2.2.2.1
  obtain rfl := fRo_u y6 w.2.2.1
  obtain rfl := fRo_c w.2.2.2.1 s0 t0 sc0
  obtain rfl := fRo_u w6 w.1
  obtain rfl := fRo_u w4 w.1
  have q0 : fB K n (.inl q) 64 [fR x0, fI x1, fI x2, fI x3, fI x4] (jup σ x9 (jsto (σ x9) x5.toNatClampNeg x8)) := by
    have hg : ¬ K x9 = 25 := by rw [d9]; decide
    have hk : ∀ k, ¬ k = 41 → ¬ K x9 = k := fun k h e => h (by rw [← e]; exact d9)
    refine ⟨_, _, _, _, _, (t.1, t.2.1, t.2.2.1, upd t.2.2.2.1 x5.toInt.toNat x8, t.2.2.2.2), rfl, ⟨fRo_ne w.1 hg (hk _ (by decide)), fRo_ne w.2.1 hg (hk _ (by decide)), fRo_ne w.2.2.1 hg (hk _ (by decide)), fRo_st w.2.2.2.1 s0 t0 (by decide), fRl_ne w.2.2.2.2 hg (hk _ (by decide))⟩, h0, N0, ⟨q, rfl⟩, ?_⟩
    obtain rfl : x6 = x4 := fI0 (by omega)
    have hpa := fTk_pa H (k := x6.toInt.toNat) (by omega) (by omega)
    rw [p4] at hpa
    have hl := fTk_lead H (ab := x3.toInt.toNat) (bf := x5.toInt.toNat) (nd := x6.toInt.toNat) (i := x7.toInt.toNat) (ndI := x6) L1 L2 (fun c hc => ⟨(L3 c hc).1, ?_, ?_⟩) (by rw [show ((x5.toInt.toNat : Nat) : Int) = x5.toInt by omega]; exact L4) (by omega) (by rw [k7]; omega) (by omega) (by omega) (by omega)
    · rw [ec0]
      exact hl
    · exact fCn_le H L1 L2 (fun d hd => (L3 d hd).1) (by omega) hc
    · rw [(L3 c hc).2.2]; omega
  exact ⟨.inl q, fun _ => rfl, ⟨(fun q h => by cases h), fun q h => (by cases h), (fun f h => by cases h), (aAllc ⟨_, rfl, fF_p (r := 1029) (by decide) (by decide) rfl q0⟩ (fun f h => by cases h))⟩, [], List.mem_cons_self, fun f h => (by cases h)⟩
set_option maxRecDepth 8192 in
theorem rw_ruLD2 {K : Nat → Nat} {n : Nat} : aGho (fF K n) fa_T K n (fJX K n) ag_ruLD2 := by
  refine aGho_of ⟨rfl, rfl⟩ ?_
  intro p σ ρ hH hX hA hM
  have hG := aAG_of hA.1 (fun i e v he hv => (hA.2 i e v he hv).1)
  clear hA
  obtain ⟨v0, v1, v2, v3, v4, v5, v6, v7, rfl, g0, g1, g2, g3, g4, g5, g6, g7⟩ := fA_8 hG
  clear hG
  obtain ⟨x0, rfl, b0, d0⟩ := fG_ref (by decide) g0
  obtain ⟨x1, rfl, b1, d1⟩ := aG_int g1
  dsimp only at b1 d1
  obtain ⟨x2, rfl, b2, d2⟩ := aG_int g2
  dsimp only at b2 d2
  obtain ⟨x3, rfl, b3, d3⟩ := aG_int g3
  dsimp only at b3 d3
  obtain ⟨x4, rfl, b4, d4⟩ := aG_int g4
  dsimp only at b4 d4
  obtain ⟨x5, rfl, b5, d5⟩ := aG_int g5
  dsimp only at b5 d5
  obtain ⟨x6, rfl, b6, d6⟩ := fG_ref (by decide) g6
  obtain ⟨x7, rfl, b7, d7⟩ := fG_ref (by decide) g7
  obtain ⟨m1, m2, m3, m4⟩ := hM
  obtain ⟨a0, c0, fs0, w0, e1, s0, t0, e4⟩ := m1 (0, 6, 6) (List.mem_of_getElem? (i := 0) rfl)
  obtain rfl : x0 = a0 := Sum.inl.inj (Option.some.inj (Sum.inr.inj (Sum.inr.inj (Option.some.inj (show some (fR x0) = some _ from e1)))))
  obtain rfl : fR x6 = w0 := Option.some.inj (show some (fR x6) = some w0 from e4)
  clear e1 e4
  obtain ⟨a1, c1, fs1, w1, e1, s1, t1, e4⟩ := m1 (0, 5, 7) (List.mem_of_getElem? (i := 1) rfl)
  obtain rfl : x0 = a1 := Sum.inl.inj (Option.some.inj (Sum.inr.inj (Sum.inr.inj (Option.some.inj (show some (fR x0) = some _ from e1)))))
  obtain rfl : fR x7 = w1 := Option.some.inj (show some (fR x7) = some w1 from e4)
  clear e1 e4
  obtain ⟨a, mc0, ty0, gc0, ic0, e1, sc0, jc0, e4, e5⟩ := m2 (7, ([(3, 1)], 0), 5) (List.mem_of_getElem? (i := 0) rfl)
  obtain rfl : x7 = a := Sum.inl.inj (Option.some.inj (Sum.inr.inj (Sum.inr.inj (Option.some.inj (show some (fR x7) = some _ from e1)))))
  obtain ⟨gc0, rfl⟩ : ∃ g, gc0 = .inl g := by
    rcases gc0 with g | g
    · exact ⟨g, rfl⟩
    · exact absurd (show some (fI x5) = some (.inr (.inl (g ic0))) from e5) (fun h => by cases h)
  have sc0 : σ x7 = .inl (ty0, mc0, .inl gc0) := sc0
  have ec0 : x5 = gc0 ic0 := Sum.inl.inj (Option.some.inj (show some (fI x5) = some _ from e5))
  have kc0 : (ic0 : Int) = (1 * x3.toInt + 0) + 0 := by
    obtain ⟨z, e6, e7⟩ := e4
    obtain rfl : (1 * x3.toInt + 0) = z := Option.some.inj (show some (1 * x3.toInt + 0) = some z from e6)
    exact e7
  clear e1 e4 e5
  obtain rfl : ic0 = x3.toInt.toNat := by omega
  have f0 : fB K n p 64 [fR x0, fI x1, fI x2, fI x3, fI x4] σ := by
    obtain ⟨w, e6, e7⟩ := m4 (1029, [0, 1, 2, 3, 4]) (List.mem_of_getElem? (i := 0) rfl)
    obtain rfl : [fR x0, fI x1, fI x2, fI x3, fI x4] = w := Option.some.inj (show some [fR x0, fI x1, fI x2, fI x3, fI x4] = some w from e6)
    exact (fF_b (r := 1029) (by decide) rfl).mp e7
  clear m1 m2 m3 m4
  obtain ⟨a, h, N, ab, nd, t, e, w, h0, N0, hq, H⟩ := f0
  cases e
  obtain rfl := fRo_c w.2.2.1 s1 t1 sc0
  have q0 : fB K n (p) 63 [fR x0, fI x1, fI x2, fI x3, fI x4] (jup σ x6 (jsto (σ x6) x4.toNatClampNeg x5)) := by
    have hg : ¬ K x6 = 25 := by rw [d6]; decide
    have hk : ∀ k, ¬ k = 41 → ¬ K x6 = k := fun k h e => h (by rw [← e]; exact d6)
    exact ⟨_, _, _, _, _, (t.1, t.2.1, t.2.2.1, upd t.2.2.2.1 x4.toInt.toNat x5, t.2.2.2.2), rfl, ⟨fRo_ne w.1 hg (hk _ (by decide)), fRo_ne w.2.1 hg (hk _ (by decide)), fRo_ne w.2.2.1 hg (hk _ (by decide)), fRo_st w.2.2.2.1 s0 t0 (by decide), fRl_ne w.2.2.2.2 hg (hk _ (by decide))⟩, h0, N0, hq, by rw [ec0]; exact H⟩
  exact ⟨p, fun _ => rfl, ⟨(fun q h => by cases h), fun q h => (by cases h), (fun f h => by cases h), (aAllc ⟨_, rfl, fF_p (r := 1013) (by decide) (by decide) rfl q0⟩ (fun f h => by cases h))⟩, [], List.mem_cons_self, fun f h => (by cases h)⟩
set_option maxRecDepth 8192 in
theorem rw_ruLD3 {K : Nat → Nat} {n : Nat} : aGho (fF K n) fa_T K n (fJX K n) ag_ruLD3 := by
  refine aGho_of ⟨rfl, rfl⟩ ?_
  intro p σ ρ hH hX hA hM
  have hG := aAG_of hA.1 (fun i e v he hv => (hA.2 i e v he hv).1)
  clear hA
  obtain ⟨v0, v1, v2, v3, v4, v5, rfl, g0, g1, g2, g3, g4, g5⟩ := fA_6 hG
  clear hG
  obtain ⟨x0, rfl, b0, d0⟩ := fG_ref (by decide) g0
  obtain ⟨x1, rfl, b1, d1⟩ := aG_int g1
  dsimp only at b1 d1
  obtain ⟨x2, rfl, b2, d2⟩ := aG_int g2
  dsimp only at b2 d2
  obtain ⟨x3, rfl, b3, d3⟩ := aG_int g3
  dsimp only at b3 d3
  obtain ⟨x4, rfl, b4, d4⟩ := aG_int g4
  dsimp only at b4 d4
  obtain ⟨x5, rfl, b5, d5⟩ := fG_ref (by decide) g5
  obtain ⟨m1, m2, m3, m4⟩ := hM
  obtain ⟨a0, c0, fs0, w0, e1, s0, t0, e4⟩ := m1 (0, 5, 5) (List.mem_of_getElem? (i := 0) rfl)
  obtain rfl : x0 = a0 := Sum.inl.inj (Option.some.inj (Sum.inr.inj (Sum.inr.inj (Option.some.inj (show some (fR x0) = some _ from e1)))))
  obtain rfl : fR x5 = w0 := Option.some.inj (show some (fR x5) = some w0 from e4)
  clear e1 e4
  have f0 : fB K n p 63 [fR x0, fI x1, fI x2, fI x3, fI x4] σ := by
    obtain ⟨w, e6, e7⟩ := m4 (1013, [0, 1, 2, 3, 4]) (List.mem_of_getElem? (i := 0) rfl)
    obtain rfl : [fR x0, fI x1, fI x2, fI x3, fI x4] = w := Option.some.inj (show some [fR x0, fI x1, fI x2, fI x3, fI x4] = some w from e6)
    exact (fF_b (r := 1013) (by decide) rfl).mp e7
  clear m1 m2 m3 m4
  obtain ⟨a, h, N, ab, nd, t, e, w, h0, N0, hq, H⟩ := f0
  cases e
  have q0 : fB K n (p) 61 [fR x0, fI x1, fI x2] (jup σ x5 (jsto (σ x5) x3.toNatClampNeg x4)) := by
    have hg : ¬ K x5 = 25 := by rw [d5]; decide
    have hk : ∀ k, ¬ k = 40 → ¬ K x5 = k := fun k h e => h (by rw [← e]; exact d5)
    exact ⟨_, _, _, (t.1, t.2.1, upd t.2.2.1 x3.toInt.toNat x4, t.2.2.2), rfl, ⟨fRo_ne w.1 hg (hk _ (by decide)), fRo_ne w.2.1 hg (hk _ (by decide)), fRo_st w.2.2.1 s0 t0 (by decide), fRo_ne w.2.2.2.1 hg (hk _ (by decide)), fRl_ne w.2.2.2.2 hg (hk _ (by decide))⟩, h0, N0, hq, H⟩
  exact ⟨p, fun _ => rfl, ⟨(fun q h => by cases h), fun q h => (by cases h), (fun f h => by cases h), (aAllc ⟨_, rfl, fF_p (r := 979) (by decide) (by decide) rfl q0⟩ (fun f h => by cases h))⟩, [], List.mem_cons_self, fun f h => (by cases h)⟩
set_option maxRecDepth 8192 in
theorem rw_ruCHc {K : Nat → Nat} {n : Nat} : aGho (fF K n) fa_T K n (fJX K n) ag_ruCHc := by
  refine aGho_of ⟨rfl, rfl⟩ ?_
  intro p σ ρ hH hX hA hM
  have hG := aAG_of hA.1 (fun i e v he hv => (hA.2 i e v he hv).1)
  clear hA
  obtain ⟨v0, v1, v2, v3, v4, rfl, g0, g1, g2, g3, g4⟩ := fA_5 hG
  clear hG
  obtain ⟨x0, rfl, b0, d0⟩ := fG_ref (by decide) g0
  obtain ⟨x1, rfl, b1, d1⟩ := aG_int g1
  dsimp only at b1 d1
  obtain ⟨x2, rfl, b2, d2⟩ := aG_int g2
  dsimp only at b2 d2
  obtain ⟨x3, rfl, b3, d3⟩ := aG_int g3
  dsimp only at b3 d3
  obtain ⟨x4, rfl, b4, d4⟩ := fG_ref (by decide) g4
  obtain ⟨m1, m2, m3, m4⟩ := hM
  obtain ⟨a0, c0, fs0, w0, e1, s0, t0, e4⟩ := m1 (0, 1, 3) (List.mem_of_getElem? (i := 0) rfl)
  obtain rfl : x0 = a0 := Sum.inl.inj (Option.some.inj (Sum.inr.inj (Sum.inr.inj (Option.some.inj (show some (fR x0) = some _ from e1)))))
  obtain rfl : fI x3 = w0 := Option.some.inj (show some (fI x3) = some w0 from e4)
  clear e1 e4
  obtain ⟨a1, c1, fs1, w1, e1, s1, t1, e4⟩ := m1 (0, 3, 4) (List.mem_of_getElem? (i := 1) rfl)
  obtain rfl : x0 = a1 := Sum.inl.inj (Option.some.inj (Sum.inr.inj (Sum.inr.inj (Option.some.inj (show some (fR x0) = some _ from e1)))))
  obtain rfl : fR x4 = w1 := Option.some.inj (show some (fR x4) = some w1 from e4)
  clear e1 e4
  obtain ⟨a, mc0, ty0, gc0, ic0, e1, sc0, jc0, e4, e5⟩ := m2 (4, ([(1, 1)], 0), 2) (List.mem_of_getElem? (i := 0) rfl)
  obtain rfl : x4 = a := Sum.inl.inj (Option.some.inj (Sum.inr.inj (Sum.inr.inj (Option.some.inj (show some (fR x4) = some _ from e1)))))
  obtain ⟨gc0, rfl⟩ : ∃ g, gc0 = .inl g := by
    rcases gc0 with g | g
    · exact ⟨g, rfl⟩
    · exact absurd (show some (fI x2) = some (.inr (.inl (g ic0))) from e5) (fun h => by cases h)
  have sc0 : σ x4 = .inl (ty0, mc0, .inl gc0) := sc0
  have ec0 : x2 = gc0 ic0 := Sum.inl.inj (Option.some.inj (show some (fI x2) = some _ from e5))
  have kc0 : (ic0 : Int) = (1 * x1.toInt + 0) + 0 := by
    obtain ⟨z, e6, e7⟩ := e4
    obtain rfl : (1 * x1.toInt + 0) = z := Option.some.inj (show some (1 * x1.toInt + 0) = some z from e6)
    exact e7
  clear e1 e4 e5
  obtain rfl : ic0 = x1.toInt.toNat := by omega
  have l0 : 0 ≤ (1 * x1.toInt + 0) + -1 := by
    obtain ⟨z, e6, e7⟩ := m3 ([(1, 1)], -1) (List.mem_of_getElem? (i := 0) rfl)
    obtain rfl : (1 * x1.toInt + 0) = z := Option.some.inj (show some (1 * x1.toInt + 0) = some z from e6)
    exact e7
  have l1 : 0 ≤ (1 * x3.toInt + (-1 * x1.toInt + 0)) + 0 := by
    obtain ⟨z, e6, e7⟩ := m3 ([(3, 1), (1, -1)], 0) (List.mem_of_getElem? (i := 1) rfl)
    obtain rfl : (1 * x3.toInt + (-1 * x1.toInt + 0)) = z := Option.some.inj (show some (1 * x3.toInt + (-1 * x1.toInt + 0)) = some z from e6)
    exact e7
  clear m1 m2 m3 m4
  obtain ⟨pa, wpa, epa⟩ := fRo_mk hH b0 d0 s1 t1 b4 d4 (q := ((0, 300), [])) rfl
  rw [sc0] at epa
  cases epa
  have q0 : fB K n (p) 104 [fR x0, fI x1, fI x2] σ := by
    exact ⟨_, _, _, _, gc0, rfl, wpa, fFi_mk hH b0 d0 s0 t0, by omega, by omega, ec0.symm⟩
  exact ⟨p, fun _ => rfl, ⟨(fun q h => by cases h), fun q h => (by cases h), (fun f h => by cases h), (aAllc ⟨_, rfl, (fF_b (r := 1667) (by decide) rfl).mpr q0⟩ (fun f h => by cases h))⟩, [], List.mem_cons_self, fun f h => (by cases h)⟩
set_option maxRecDepth 8192 in
theorem rw_ruPAl {K : Nat → Nat} {n : Nat} : aGho (fF K n) fa_T K n (fJX K n) ag_ruPAl := by
  refine aGho_of ⟨rfl, rfl⟩ ?_
  intro p σ ρ hH hX hA hM
  have hG := aAG_of hA.1 (fun i e v he hv => (hA.2 i e v he hv).1)
  clear hA
  obtain ⟨v0, v1, v2, v3, v4, v5, rfl, g0, g1, g2, g3, g4, g5⟩ := fA_6 hG
  clear hG
  obtain ⟨x0, rfl, b0, d0⟩ := fG_ref (by decide) g0
  obtain ⟨x1, rfl, b1, d1⟩ := aG_int g1
  dsimp only at b1 d1
  obtain ⟨x2, rfl, b2, d2⟩ := aG_int g2
  dsimp only at b2 d2
  obtain ⟨x3, rfl, b3, d3⟩ := aG_int g3
  dsimp only at b3 d3
  obtain ⟨x4, rfl, b4, d4⟩ := aG_int g4
  dsimp only at b4 d4
  obtain ⟨x5, rfl, b5, d5⟩ := fG_ref (by decide) g5
  obtain ⟨m1, m2, m3, m4⟩ := hM
  obtain ⟨a0, c0, fs0, w0, e1, s0, t0, e4⟩ := m1 (0, 3, 5) (List.mem_of_getElem? (i := 0) rfl)
  obtain rfl : x0 = a0 := Sum.inl.inj (Option.some.inj (Sum.inr.inj (Sum.inr.inj (Option.some.inj (show some (fR x0) = some _ from e1)))))
  obtain rfl : fR x5 = w0 := Option.some.inj (show some (fR x5) = some w0 from e4)
  clear e1 e4
  obtain ⟨a, mc0, ty0, gc0, ic0, e1, sc0, jc0, e4, e5⟩ := m2 (5, ([(3, 1)], 0), 4) (List.mem_of_getElem? (i := 0) rfl)
  obtain rfl : x5 = a := Sum.inl.inj (Option.some.inj (Sum.inr.inj (Sum.inr.inj (Option.some.inj (show some (fR x5) = some _ from e1)))))
  obtain ⟨gc0, rfl⟩ : ∃ g, gc0 = .inl g := by
    rcases gc0 with g | g
    · exact ⟨g, rfl⟩
    · exact absurd (show some (fI x4) = some (.inr (.inl (g ic0))) from e5) (fun h => by cases h)
  have sc0 : σ x5 = .inl (ty0, mc0, .inl gc0) := sc0
  have ec0 : x4 = gc0 ic0 := Sum.inl.inj (Option.some.inj (show some (fI x4) = some _ from e5))
  have kc0 : (ic0 : Int) = (1 * x3.toInt + 0) + 0 := by
    obtain ⟨z, e6, e7⟩ := e4
    obtain rfl : (1 * x3.toInt + 0) = z := Option.some.inj (show some (1 * x3.toInt + 0) = some z from e6)
    exact e7
  clear e1 e4 e5
  obtain rfl : ic0 = x3.toInt.toNat := by omega
  have l0 : 0 ≤ (1 * x3.toInt + 0) + -1 := by
    obtain ⟨z, e6, e7⟩ := m3 ([(3, 1)], -1) (List.mem_of_getElem? (i := 0) rfl)
    obtain rfl : (1 * x3.toInt + 0) = z := Option.some.inj (show some (1 * x3.toInt + 0) = some z from e6)
    exact e7
  have l1 : 0 ≤ (1 * x2.toInt + (-1 * x3.toInt + 0)) + 0 := by
    obtain ⟨z, e6, e7⟩ := m3 ([(2, 1), (3, -1)], 0) (List.mem_of_getElem? (i := 1) rfl)
    obtain rfl : (1 * x2.toInt + (-1 * x3.toInt + 0)) = z := Option.some.inj (show some (1 * x2.toInt + (-1 * x3.toInt + 0)) = some z from e6)
    exact e7
  have f0 : fB K n p 61 [fR x0, fI x1, fI x2] σ := by
    obtain ⟨w, e6, e7⟩ := m4 (979, [0, 1, 2]) (List.mem_of_getElem? (i := 0) rfl)
    obtain rfl : [fR x0, fI x1, fI x2] = w := Option.some.inj (show some [fR x0, fI x1, fI x2] = some w from e6)
    exact (fF_b (r := 979) (by decide) rfl).mp e7
  clear m1 m2 m3 m4
  obtain ⟨a, h, N, t, e, w, h0, N0, ⟨q, hq⟩, H⟩ := f0
  cases e
  subst hq
  obtain rfl := fRo_c w.1 s0 t0 sc0
  have hp := fTk_pa H (k := x3.toInt.toNat) (by omega) (by omega)
  rw [← ec0] at hp
  have r0 : 0 ≤ (1 * x3.toInt + (-1 * x4.toInt + 0)) + -1 := by
    omega
  exact ⟨.inl q, fun _ => rfl, ⟨(fun q h => by cases h), fun q h => (by cases h), (aAllc ⟨_, rfl, r0⟩ (fun f h => by cases h)), (fun f h => by cases h)⟩, [], List.mem_cons_self, fun f h => (by cases h)⟩
set_option maxRecDepth 8192 in
theorem rw_ruMan {K : Nat → Nat} {n : Nat} : aGho (fF K n) fa_T K n (fJX K n) ag_ruMan := by
  refine aGho_of ⟨rfl, rfl⟩ ?_
  intro p σ ρ hH hX hA hM
  have hG := aAG_of hA.1 (fun i e v he hv => (hA.2 i e v he hv).1)
  clear hA
  obtain ⟨v0, v1, v2, v3, v4, v5, rfl, g0, g1, g2, g3, g4, g5⟩ := fA_6 hG
  clear hG
  obtain ⟨x0, rfl, b0, d0⟩ := aG_int g0
  dsimp only at b0 d0
  obtain ⟨x1, rfl, b1, d1⟩ := aG_int g1
  dsimp only at b1 d1
  obtain ⟨x2, rfl, b2, d2⟩ := aG_int g2
  dsimp only at b2 d2
  obtain ⟨x3, rfl, b3, d3⟩ := fG_ref (by decide) g3
  obtain ⟨x4, rfl, b4, d4⟩ := aG_int g4
  dsimp only at b4 d4
  obtain ⟨x5, rfl, b5, d5⟩ := fG_ref (by decide) g5
  obtain ⟨m1, m2, m3, m4⟩ := hM
  obtain ⟨a0, c0, fs0, w0, e1, s0, t0, e4⟩ := m1 (3, 0, 5) (List.mem_of_getElem? (i := 0) rfl)
  obtain rfl : x3 = a0 := Sum.inl.inj (Option.some.inj (Sum.inr.inj (Sum.inr.inj (Option.some.inj (show some (fR x3) = some _ from e1)))))
  obtain rfl : fR x5 = w0 := Option.some.inj (show some (fR x5) = some w0 from e4)
  clear e1 e4
  obtain ⟨a, mc0, ty0, gc0, ic0, e1, sc0, jc0, e4, e5⟩ := m2 (5, ([(4, 1)], 0), 1) (List.mem_of_getElem? (i := 0) rfl)
  obtain rfl : x5 = a := Sum.inl.inj (Option.some.inj (Sum.inr.inj (Sum.inr.inj (Option.some.inj (show some (fR x5) = some _ from e1)))))
  obtain ⟨gc0, rfl⟩ : ∃ g, gc0 = .inl g := by
    rcases gc0 with g | g
    · exact ⟨g, rfl⟩
    · exact absurd (show some (fI x1) = some (.inr (.inl (g ic0))) from e5) (fun h => by cases h)
  have sc0 : σ x5 = .inl (ty0, mc0, .inl gc0) := sc0
  have ec0 : x1 = gc0 ic0 := Sum.inl.inj (Option.some.inj (show some (fI x1) = some _ from e5))
  have kc0 : (ic0 : Int) = (1 * x4.toInt + 0) + 0 := by
    obtain ⟨z, e6, e7⟩ := e4
    obtain rfl : (1 * x4.toInt + 0) = z := Option.some.inj (show some (1 * x4.toInt + 0) = some z from e6)
    exact e7
  clear e1 e4 e5
  obtain rfl : ic0 = x4.toInt.toNat := by omega
  have l0 : 0 ≤ (1 * x0.toInt + (-1 * x1.toInt + (8 * x2.toInt + 0))) + 0 := by
    obtain ⟨z, e6, e7⟩ := m3 ([(0, 1), (1, -1), (2, 8)], 0) (List.mem_of_getElem? (i := 0) rfl)
    obtain rfl : (1 * x0.toInt + (-1 * x1.toInt + (8 * x2.toInt + 0))) = z := Option.some.inj (show some (1 * x0.toInt + (-1 * x1.toInt + (8 * x2.toInt + 0))) = some z from e6)
    exact e7
  have l1 : 0 ≤ (-1 * x0.toInt + (1 * x1.toInt + (-8 * x2.toInt + 0))) + 0 := by
    obtain ⟨z, e6, e7⟩ := m3 ([(0, -1), (1, 1), (2, -8)], 0) (List.mem_of_getElem? (i := 1) rfl)
    obtain rfl : (-1 * x0.toInt + (1 * x1.toInt + (-8 * x2.toInt + 0))) = z := Option.some.inj (show some (-1 * x0.toInt + (1 * x1.toInt + (-8 * x2.toInt + 0))) = some z from e6)
    exact e7
  have f0 : fB K n p 1 [fR x3] σ := by
    obtain ⟨w, e6, e7⟩ := m4 (17, [3]) (List.mem_of_getElem? (i := 0) rfl)
    obtain rfl : [fR x3] = w := Option.some.inj (show some [fR x3] = some w from e6)
    exact (fF_b (r := 17) (by decide) rfl).mp e7
  clear m1 m2 m3 m4
  obtain ⟨a9, e9, A, hg9, q9, hq9⟩ := f0
  cases e9
  obtain ⟨g9, hg, hm⟩ := (fAt_of A s0).1 _ t0
  rw [sc0] at hg
  cases hg
  have hx := hg9.2.2.2.2 x4.toInt.toNat (by omega)
  rw [← hm _ (by omega), ← ec0] at hx
  have r0 : 0 ≤ (-1 * x1.toInt + (8 * x2.toInt + 0)) + 6 := by
    omega
  exact ⟨p, fun _ => rfl, ⟨(fun q h => by cases h), fun q h => (by cases h), (aAllc ⟨_, rfl, r0⟩ (fun f h => by cases h)), (fun f h => by cases h)⟩, [], List.mem_cons_self, fun f h => (by cases h)⟩
set_option maxRecDepth 8192 in
theorem rw_ruBec {K : Nat → Nat} {n : Nat} : aGho (fF K n) fa_T K n (fJX K n) ag_ruBec := by
  refine aGho_of ⟨rfl, rfl⟩ ?_
  intro p σ ρ hH hX hA hM
  have hG := aAG_of hA.1 (fun i e v he hv => (hA.2 i e v he hv).1)
  clear hA
  obtain ⟨v0, v1, v2, rfl, g0, g1, g2⟩ := fA_3 hG
  clear hG
  obtain ⟨x0, rfl, b0, d0⟩ := aG_int g0
  dsimp only at b0 d0
  obtain ⟨x1, rfl, b1, d1⟩ := aG_int g1
  dsimp only at b1 d1
  obtain ⟨x2, rfl, b2, d2⟩ := aG_int g2
  dsimp only at b2 d2
  obtain ⟨m1, m2, m3, m4⟩ := hM
  have l0 : 0 ≤ (1 * x0.toInt + (-1 * x1.toInt + (8 * x2.toInt + 0))) + 0 := by
    obtain ⟨z, e6, e7⟩ := m3 ([(0, 1), (1, -1), (2, 8)], 0) (List.mem_of_getElem? (i := 0) rfl)
    obtain rfl : (1 * x0.toInt + (-1 * x1.toInt + (8 * x2.toInt + 0))) = z := Option.some.inj (show some (1 * x0.toInt + (-1 * x1.toInt + (8 * x2.toInt + 0))) = some z from e6)
    exact e7
  have l1 : 0 ≤ (-1 * x0.toInt + (1 * x1.toInt + (-8 * x2.toInt + 0))) + 0 := by
    obtain ⟨z, e6, e7⟩ := m3 ([(0, -1), (1, 1), (2, -8)], 0) (List.mem_of_getElem? (i := 1) rfl)
    obtain rfl : (-1 * x0.toInt + (1 * x1.toInt + (-8 * x2.toInt + 0))) = z := Option.some.inj (show some (-1 * x0.toInt + (1 * x1.toInt + (-8 * x2.toInt + 0))) = some z from e6)
    exact e7
  have f0 : fB K n p 3 [fI x1] σ := by
    obtain ⟨w, e6, e7⟩ := m4 (49, [1]) (List.mem_of_getElem? (i := 0) rfl)
    obtain rfl : [fI x1] = w := Option.some.inj (show some [fI x1] = some w from e6)
    exact (fF_b (r := 49) (by decide) rfl).mp e7
  clear m1 m2 m3 m4
  obtain ⟨m9, e9, k9, hk1, hk2, hk3, hk4, hk5, hk6, hk7, -⟩ := f0
  cases e9
  have hb := (fMk (m := x1) (f := x2.toInt / 64) (t := x2.toInt % 64) (b := x0.toInt) (by omega) (by omega) (by omega) (by omega)).2.2
  have r0 : 0 ≤ (-1 * x1.toInt + (8 * x2.toInt + 0)) + 6 := by
    by_cases h0 : fMb x1 = 0
    · omega
    · have := (hk7.1 h0).2.2
      omega
  exact ⟨p, fun _ => rfl, ⟨(fun q h => by cases h), fun q h => (by cases h), (aAllc ⟨_, rfl, r0⟩ (fun f h => by cases h)), (fun f h => by cases h)⟩, [], List.mem_cons_self, fun f h => (by cases h)⟩
set_option maxRecDepth 8192 in
theorem rw_ruLE {K : Nat → Nat} {n : Nat} : aGho (fF K n) fa_T K n (fJX K n) ag_ruLE := by
  refine aGho_of ⟨rfl, rfl⟩ ?_
  intro p σ ρ hH hX hA hM
  have hG := aAG_of hA.1 (fun i e v he hv => (hA.2 i e v he hv).1)
  clear hA
  obtain ⟨v0, v1, rfl, g0, g1⟩ := fA_2 hG
  clear hG
  obtain ⟨x0, rfl, b0, d0⟩ := fG_ref (by decide) g0
  obtain ⟨x1, rfl, b1, d1⟩ := aG_int g1
  dsimp only at b1 d1
  obtain ⟨m1, m2, m3, m4⟩ := hM
  have f0 : fB K n p 47 [fR x0, fI x1] σ := by
    obtain ⟨w, e6, e7⟩ := m4 (754, [0, 1]) (List.mem_of_getElem? (i := 0) rfl)
    obtain rfl : [fR x0, fI x1] = w := Option.some.inj (show some [fR x0, fI x1] = some w from e6)
    exact (fF_b (r := 754) (by decide) rfl).mp e7
  clear m1 m2 m3 m4
  obtain ⟨a, hi, e, h⟩ := f0
  cases e
  have q0 : fB K n (p) 66 [fR x0, fI x1] σ := by
    exact ⟨_, _, rfl, d0, h⟩
  exact ⟨p, fun _ => rfl, ⟨(fun q h => by cases h), fun q h => (by cases h), (fun f h => by cases h), (aAllc ⟨_, rfl, (fF_b (r := 1058) (by decide) rfl).mpr q0⟩ (fun f h => by cases h))⟩, [], List.mem_cons_self, fun f h => (by cases h)⟩
set_option maxRecDepth 8192 in
theorem rw_ruLME {K : Nat → Nat} {n : Nat} : aGho (fF K n) fa_T K n (fJX K n) ag_ruLME := by
  refine aGho_of ⟨rfl, rfl⟩ ?_
  intro p σ ρ hH hX hA hM
  have hG := aAG_of hA.1 (fun i e v he hv => (hA.2 i e v he hv).1)
  clear hA
  obtain ⟨v0, v1, v2, v3, rfl, g0, g1, g2, g3⟩ := fA_4 hG
  clear hG
  obtain ⟨x0, rfl, b0, d0⟩ := fG_ref (by decide) g0
  obtain ⟨x1, rfl, b1, d1⟩ := aG_int g1
  dsimp only at b1 d1
  obtain ⟨x2, rfl, b2, d2⟩ := aG_int g2
  dsimp only at b2 d2
  obtain ⟨x3, rfl, b3, d3⟩ := aG_int g3
  dsimp only at b3 d3
  obtain ⟨m1, m2, m3, m4⟩ := hM
  obtain ⟨a, mc0, ty0, gc0, ic0, e1, sc0, jc0, e4, e5⟩ := m2 (0, ([(1, 1)], 0), 3) (List.mem_of_getElem? (i := 0) rfl)
  obtain rfl : x0 = a := Sum.inl.inj (Option.some.inj (Sum.inr.inj (Sum.inr.inj (Option.some.inj (show some (fR x0) = some _ from e1)))))
  obtain ⟨gc0, rfl⟩ : ∃ g, gc0 = .inl g := by
    rcases gc0 with g | g
    · exact ⟨g, rfl⟩
    · exact absurd (show some (fI x3) = some (.inr (.inl (g ic0))) from e5) (fun h => by cases h)
  have sc0 : σ x0 = .inl (ty0, mc0, .inl gc0) := sc0
  have ec0 : x3 = gc0 ic0 := Sum.inl.inj (Option.some.inj (show some (fI x3) = some _ from e5))
  have kc0 : (ic0 : Int) = (1 * x1.toInt + 0) + 0 := by
    obtain ⟨z, e6, e7⟩ := e4
    obtain rfl : (1 * x1.toInt + 0) = z := Option.some.inj (show some (1 * x1.toInt + 0) = some z from e6)
    exact e7
  clear e1 e4 e5
  obtain rfl : ic0 = x1.toInt.toNat := by omega
  have l0 : 0 ≤ (1 * x2.toInt + (-1 * x1.toInt + 0)) + -1 := by
    obtain ⟨z, e6, e7⟩ := m3 ([(2, 1), (1, -1)], -1) (List.mem_of_getElem? (i := 0) rfl)
    obtain rfl : (1 * x2.toInt + (-1 * x1.toInt + 0)) = z := Option.some.inj (show some (1 * x2.toInt + (-1 * x1.toInt + 0)) = some z from e6)
    exact e7
  have f0 : fB K n p 66 [fR x0, fI x2] σ := by
    obtain ⟨w, e6, e7⟩ := m4 (1058, [0, 2]) (List.mem_of_getElem? (i := 0) rfl)
    obtain rfl : [fR x0, fI x2] = w := Option.some.inj (show some [fR x0, fI x2] = some w from e6)
    exact (fF_b (r := 1058) (by decide) rfl).mp e7
  clear m1 m2 m3 m4
  obtain ⟨a, hi, e, hk, h1, h2, m, g, h3, h4⟩ := f0
  cases e
  rw [sc0] at h3
  cases h3
  have q0 : fB K n (p) 3 [fI x3] σ := by
    exact ⟨_, rfl, by rw [ec0]; exact h4 _ (by omega)⟩
  exact ⟨p, fun _ => rfl, ⟨(fun q h => by cases h), fun q h => (by cases h), (fun f h => by cases h), (aAllc ⟨_, rfl, (fF_b (r := 49) (by decide) rfl).mpr q0⟩ (fun f h => by cases h))⟩, [], List.mem_cons_self, fun f h => (by cases h)⟩
set_option maxRecDepth 8192 in
theorem rw_ruL00 {K : Nat → Nat} {n : Nat} : aGho (fF K n) fa_T K n (fJX K n) ag_ruL00 := by
  refine aGho_of ⟨rfl, rfl⟩ ?_
  intro p σ ρ hH hX hA hM
  have hG := aAG_of hA.1 (fun i e v he hv => (hA.2 i e v he hv).1)
  clear hA
  obtain ⟨v0, v1, rfl, g0, g1⟩ := fA_2 hG
  clear hG
  obtain ⟨x0, rfl, b0, d0⟩ := fG_ref (by decide) g0
  obtain ⟨x1, rfl, b1, d1⟩ := aG_int g1
  dsimp only at b1 d1
  obtain ⟨m1, m2, m3, m4⟩ := hM
  clear m1 m2 m3 m4
  obtain ⟨g, e⟩ := fRow hH b0 d0 (q := (.int, 1728, (0, 32767), [])) rfl (by intro h; cases h)
  have q0 : fB K n (p) 66 [fR x0, fI x1] σ := by
    exact ⟨_, _, rfl, d0, b0, by unfold fRw; rw [d0]; simp, _, g, e, fun k hk => by omega⟩
  exact ⟨p, fun _ => rfl, ⟨(fun q h => by cases h), fun q h => (by cases h), (fun f h => by cases h), (aAllc ⟨_, rfl, (fF_b (r := 1058) (by decide) rfl).mpr q0⟩ (fun f h => by cases h))⟩, [], List.mem_cons_self, fun f h => (by cases h)⟩
set_option maxRecDepth 8192 in
theorem rw_ruL0p {K : Nat → Nat} {n : Nat} : aGho (fF K n) fa_T K n (fJX K n) ag_ruL0p := by
  refine aGho_of ⟨rfl, rfl⟩ ?_
  intro p σ ρ hH hX hA hM
  have hG := aAG_of hA.1 (fun i e v he hv => (hA.2 i e v he hv).1)
  clear hA
  obtain ⟨v0, v1, v2, rfl, g0, g1, g2⟩ := fA_3 hG
  clear hG
  obtain ⟨x0, rfl, b0, d0⟩ := fG_ref (by decide) g0
  obtain ⟨x1, rfl, b1, d1⟩ := aG_int g1
  dsimp only at b1 d1
  obtain ⟨x2, rfl, b2, d2⟩ := aG_int g2
  dsimp only at b2 d2
  obtain ⟨m1, m2, m3, m4⟩ := hM
  have f0 : fB K n p 66 [fR x0, fI x1] σ := by
    obtain ⟨w, e6, e7⟩ := m4 (1058, [0, 1]) (List.mem_of_getElem? (i := 0) rfl)
    obtain rfl : [fR x0, fI x1] = w := Option.some.inj (show some [fR x0, fI x1] = some w from e6)
    exact (fF_b (r := 1058) (by decide) rfl).mp e7
  have f1 : fB K n p 3 [fI x2] σ := by
    obtain ⟨w, e6, e7⟩ := m4 (49, [2]) (List.mem_of_getElem? (i := 1) rfl)
    obtain rfl : [fI x2] = w := Option.some.inj (show some [fI x2] = some w from e6)
    exact (fF_b (r := 49) (by decide) rfl).mp e7
  clear m1 m2 m3 m4
  obtain ⟨a, hi, e, hk, h⟩ := f0
  cases e
  obtain ⟨m9, e9, M⟩ := f1
  cases e9
  have q0 : fB K n (p) 65 [fR x0, fI x1] (jup σ x0 (jsto (σ x0) x1.toNatClampNeg x2)) := by
    exact ⟨_, _, rfl, hk, fLl_st h (fun _ => M) (fun k h1 h2 => by rw [fNc] at h1; omega)⟩
  exact ⟨p, fun _ => rfl, ⟨(fun q h => by cases h), fun q h => (by cases h), (fun f h => by cases h), (aAllc ⟨_, rfl, fF_p (r := 1042) (by decide) (by decide) rfl q0⟩ (fun f h => by cases h))⟩, [], List.mem_cons_self, fun f h => (by cases h)⟩
set_option maxRecDepth 8192 in
theorem rw_ruL0n {K : Nat → Nat} {n : Nat} : aGho (fF K n) fa_T K n (fJX K n) ag_ruL0n := by
  refine aGho_of ⟨rfl, rfl⟩ ?_
  intro p σ ρ hH hX hA hM
  have hG := aAG_of hA.1 (fun i e v he hv => (hA.2 i e v he hv).1)
  clear hA
  obtain ⟨v0, v1, v2, rfl, g0, g1, g2⟩ := fA_3 hG
  clear hG
  obtain ⟨x0, rfl, b0, d0⟩ := fG_ref (by decide) g0
  obtain ⟨x1, rfl, b1, d1⟩ := aG_int g1
  dsimp only at b1 d1
  obtain ⟨x2, rfl, b2, d2⟩ := aG_int g2
  dsimp only at b2 d2
  obtain ⟨m1, m2, m3, m4⟩ := hM
  have l0 : 0 ≤ (1 * x2.toInt + (-1 * x1.toInt + 0)) + -1 := by
    obtain ⟨z, e6, e7⟩ := m3 ([(2, 1), (1, -1)], -1) (List.mem_of_getElem? (i := 0) rfl)
    obtain rfl : (1 * x2.toInt + (-1 * x1.toInt + 0)) = z := Option.some.inj (show some (1 * x2.toInt + (-1 * x1.toInt + 0)) = some z from e6)
    exact e7
  have l1 : 0 ≤ (-1 * x2.toInt + (1 * x1.toInt + 0)) + 1 := by
    obtain ⟨z, e6, e7⟩ := m3 ([(2, -1), (1, 1)], 1) (List.mem_of_getElem? (i := 1) rfl)
    obtain rfl : (-1 * x2.toInt + (1 * x1.toInt + 0)) = z := Option.some.inj (show some (-1 * x2.toInt + (1 * x1.toInt + 0)) = some z from e6)
    exact e7
  have f0 : fB K n p 65 [fR x0, fI x1] σ := by
    obtain ⟨w, e6, e7⟩ := m4 (1042, [0, 1]) (List.mem_of_getElem? (i := 0) rfl)
    obtain rfl : [fR x0, fI x1] = w := Option.some.inj (show some [fR x0, fI x1] = some w from e6)
    exact (fF_b (r := 1042) (by decide) rfl).mp e7
  clear m1 m2 m3 m4
  obtain ⟨a, hi, e, hk, h1, h2, m, g, h3, h4⟩ := f0
  cases e
  have q0 : fB K n (p) 66 [fR x0, fI x2] σ := by
    exact ⟨_, _, rfl, hk, h1, h2, m, g, h3, fun k hk => h4 k (by omega)⟩
  exact ⟨p, fun _ => rfl, ⟨(fun q h => by cases h), fun q h => (by cases h), (fun f h => by cases h), (aAllc ⟨_, rfl, (fF_b (r := 1058) (by decide) rfl).mpr q0⟩ (fun f h => by cases h))⟩, [], List.mem_cons_self, fun f h => (by cases h)⟩
set_option maxRecDepth 8192 in
theorem rw_ruSB {K : Nat → Nat} {n : Nat} : aGho (fF K n) fa_T K n (fJX K n) ag_ruSB := by
  refine aGho_of ⟨rfl, rfl⟩ ?_
  intro p σ ρ hH hX hA hM
  have hG := aAG_of hA.1 (fun i e v he hv => (hA.2 i e v he hv).1)
  clear hA
  obtain ⟨v0, v1, rfl, g0, g1⟩ := fA_2 hG
  clear hG
  obtain ⟨x0, rfl, b0, d0⟩ := fG_ref (by decide) g0
  obtain ⟨x1, rfl, b1, d1⟩ := fG_ref (by decide) g1
  obtain ⟨m1, m2, m3, m4⟩ := hM
  obtain ⟨a0, c0, fs0, w0, e1, s0, t0, e4⟩ := m1 (0, 7, 1) (List.mem_of_getElem? (i := 0) rfl)
  obtain rfl : x0 = a0 := Sum.inl.inj (Option.some.inj (Sum.inr.inj (Sum.inr.inj (Option.some.inj (show some (fR x0) = some _ from e1)))))
  obtain rfl : fR x1 = w0 := Option.some.inj (show some (fR x1) = some w0 from e4)
  clear e1 e4
  clear m1 m2 m3 m4
  have q0 : fB K n (p) 114 [fR x0, fR x1] σ := by
    exact ⟨_, _, rfl, b0, d0, _, _, s0, t0⟩
  exact ⟨p, fun _ => rfl, ⟨(fun q h => by cases h), fun q h => (by cases h), (fun f h => by cases h), (aAllc ⟨_, rfl, (fF_b (r := 1826) (by decide) rfl).mpr q0⟩ (fun f h => by cases h))⟩, [], List.mem_cons_self, fun f h => (by cases h)⟩
set_option maxRecDepth 8192 in
theorem rw_ruSB0 {K : Nat → Nat} {n : Nat} : aGho (fF K n) fa_T K n (fJX K n) ag_ruSB0 := by
  refine aGho_of ⟨rfl, rfl⟩ ?_
  intro p σ ρ hH hX hA hM
  have hG := aAG_of hA.1 (fun i e v he hv => (hA.2 i e v he hv).1)
  clear hA
  obtain ⟨v0, v1, v2, rfl, g0, g1, g2⟩ := fA_3 hG
  clear hG
  obtain ⟨x0, rfl, b0, d0⟩ := aG_int g0
  dsimp only at b0 d0
  obtain ⟨x1, rfl, b1, d1⟩ := fG_ref (by decide) g1
  obtain ⟨x2, rfl, b2, d2⟩ := fG_ref (by decide) g2
  obtain ⟨m1, m2, m3, m4⟩ := hM
  have l0 : 0 ≤ (-1 * x0.toInt + 0) + 0 := by
    obtain ⟨z, e6, e7⟩ := m3 ([(0, -1)], 0) (List.mem_of_getElem? (i := 0) rfl)
    obtain rfl : (-1 * x0.toInt + 0) = z := Option.some.inj (show some (-1 * x0.toInt + 0) = some z from e6)
    exact e7
  clear m1 m2 m3 m4
  have q0 : fB K n (p) 115 [fI x0, fR x1, fR x2] σ := by
    exact ⟨_, _, _, rfl, Or.inl (by omega)⟩
  exact ⟨p, fun _ => rfl, ⟨(fun q h => by cases h), fun q h => (by cases h), (fun f h => by cases h), (aAllc ⟨_, rfl, (fF_b (r := 1843) (by decide) rfl).mpr q0⟩ (fun f h => by cases h))⟩, [], List.mem_cons_self, fun f h => (by cases h)⟩
set_option maxRecDepth 8192 in
theorem rw_ruSB1 {K : Nat → Nat} {n : Nat} : aGho (fF K n) fa_T K n (fJX K n) ag_ruSB1 := by
  refine aGho_of ⟨rfl, rfl⟩ ?_
  intro p σ ρ hH hX hA hM
  have hG := aAG_of hA.1 (fun i e v he hv => (hA.2 i e v he hv).1)
  clear hA
  obtain ⟨v0, v1, v2, rfl, g0, g1, g2⟩ := fA_3 hG
  clear hG
  obtain ⟨x0, rfl, b0, d0⟩ := aG_int g0
  dsimp only at b0 d0
  obtain ⟨x1, rfl, b1, d1⟩ := fG_ref (by decide) g1
  obtain ⟨x2, rfl, b2, d2⟩ := fG_ref (by decide) g2
  obtain ⟨m1, m2, m3, m4⟩ := hM
  have f0 : fB K n p 114 [fR x1, fR x2] σ := by
    obtain ⟨w, e6, e7⟩ := m4 (1826, [1, 2]) (List.mem_of_getElem? (i := 0) rfl)
    obtain rfl : [fR x1, fR x2] = w := Option.some.inj (show some [fR x1, fR x2] = some w from e6)
    exact (fF_b (r := 1826) (by decide) rfl).mp e7
  clear m1 m2 m3 m4
  obtain ⟨a, b, e, h⟩ := f0
  cases e
  have q0 : fB K n (p) 115 [fI x0, fR x1, fR x2] σ := by
    exact ⟨_, _, _, rfl, Or.inr h⟩
  exact ⟨p, fun _ => rfl, ⟨(fun q h => by cases h), fun q h => (by cases h), (fun f h => by cases h), (aAllc ⟨_, rfl, (fF_b (r := 1843) (by decide) rfl).mpr q0⟩ (fun f h => by cases h))⟩, [], List.mem_cons_self, fun f h => (by cases h)⟩
set_option maxRecDepth 8192 in
theorem rw_ruSB2 {K : Nat → Nat} {n : Nat} : aGho (fF K n) fa_T K n (fJX K n) ag_ruSB2 := by
  refine aGho_of ⟨rfl, rfl⟩ ?_
  intro p σ ρ hH hX hA hM
  have hG := aAG_of hA.1 (fun i e v he hv => (hA.2 i e v he hv).1)
  clear hA
  obtain ⟨v0, v1, v2, rfl, g0, g1, g2⟩ := fA_3 hG
  clear hG
  obtain ⟨x0, rfl, b0, d0⟩ := aG_int g0
  dsimp only at b0 d0
  obtain ⟨x1, rfl, b1, d1⟩ := fG_ref (by decide) g1
  obtain ⟨x2, rfl, b2, d2⟩ := fG_ref (by decide) g2
  obtain ⟨m1, m2, m3, m4⟩ := hM
  have l0 : 0 ≤ (1 * x0.toInt + 0) + -1 := by
    obtain ⟨z, e6, e7⟩ := m3 ([(0, 1)], -1) (List.mem_of_getElem? (i := 0) rfl)
    obtain rfl : (1 * x0.toInt + 0) = z := Option.some.inj (show some (1 * x0.toInt + 0) = some z from e6)
    exact e7
  have f0 : fB K n p 115 [fI x0, fR x1, fR x2] σ := by
    obtain ⟨w, e6, e7⟩ := m4 (1843, [0, 1, 2]) (List.mem_of_getElem? (i := 0) rfl)
    obtain rfl : [fI x0, fR x1, fR x2] = w := Option.some.inj (show some [fI x0, fR x1, fR x2] = some w from e6)
    exact (fF_b (r := 1843) (by decide) rfl).mp e7
  clear m1 m2 m3 m4
  obtain ⟨x, a, b, e, h⟩ := f0
  cases e
  have q0 : fB K n (p) 114 [fR x1, fR x2] σ := by
    exact ⟨_, _, rfl, h.resolve_left (by omega)⟩
  exact ⟨p, fun _ => rfl, ⟨(fun q h => by cases h), fun q h => (by cases h), (fun f h => by cases h), (aAllc ⟨_, rfl, (fF_b (r := 1826) (by decide) rfl).mpr q0⟩ (fun f h => by cases h))⟩, [], List.mem_cons_self, fun f h => (by cases h)⟩
set_option maxRecDepth 8192 in
theorem rw_ruSBc {K : Nat → Nat} {n : Nat} : aGho (fF K n) fa_T K n (fJX K n) ag_ruSBc := by
  refine aGho_of ⟨rfl, rfl⟩ ?_
  intro p σ ρ hH hX hA hM
  have hG := aAG_of hA.1 (fun i e v he hv => (hA.2 i e v he hv).1)
  clear hA
  obtain ⟨v0, v1, rfl, g0, g1⟩ := fA_2 hG
  clear hG
  obtain ⟨x0, rfl, b0, d0⟩ := fG_ref (by decide) g0
  obtain ⟨x1, rfl, b1, d1⟩ := fG_ref (by decide) g1
  obtain ⟨m1, m2, m3, m4⟩ := hM
  have f0 : fB K n p 114 [fR x0, fR x1] σ := by
    obtain ⟨w, e6, e7⟩ := m4 (1826, [0, 1]) (List.mem_of_getElem? (i := 0) rfl)
    obtain rfl : [fR x0, fR x1] = w := Option.some.inj (show some [fR x0, fR x1] = some w from e6)
    exact (fF_b (r := 1826) (by decide) rfl).mp e7
  clear m1 m2 m3 m4
  obtain ⟨a, b, e, -, -, h⟩ := f0
  cases e
  have z0 : ∃ (c : Nat) (fs : List jv), σ x0 = .inr (c, fs) ∧ fs[7]? = some (fR x1) := by
    exact h
  exact ⟨p, fun _ => rfl, ⟨(aAllc (by obtain ⟨c, fs, h1, h2⟩ := z0; exact ⟨_, c, fs, _, rfl, h1, h2, rfl⟩) (fun q h => by cases h)), fun q h => (by cases h), (fun f h => by cases h), (fun f h => by cases h)⟩, [], List.mem_cons_self, fun f h => (by cases h)⟩
set_option maxRecDepth 8192 in
theorem rw_ruLO0b {K : Nat → Nat} {n : Nat} : aGho (fF K n) fa_T K n (fJX K n) ag_ruLO0b := by
  refine aGho_of ⟨rfl, rfl⟩ ?_
  intro p σ ρ hH hX hA hM
  have hG := aAG_of hA.1 (fun i e v he hv => (hA.2 i e v he hv).1)
  clear hA
  obtain ⟨v0, v1, rfl, g0, g1⟩ := fA_2 hG
  clear hG
  obtain ⟨x0, rfl, b0, d0⟩ := aG_int g0
  dsimp only at b0 d0
  obtain ⟨x1, rfl, b1, d1⟩ := fG_ref (by decide) g1
  obtain ⟨m1, m2, m3, m4⟩ := hM
  have f0 : fB K n p 1 [fR x1] σ := by
    obtain ⟨w, e6, e7⟩ := m4 (17, [1]) (List.mem_of_getElem? (i := 0) rfl)
    obtain rfl : [fR x1] = w := Option.some.inj (show some [fR x1] = some w from e6)
    exact (fF_b (r := 17) (by decide) rfl).mp e7
  clear m1 m2 m3 m4
  have q0 : fB K n (p) 46 [fI x0] σ := by
    exact ⟨_, rfl, Or.inl (by omega)⟩
  exact ⟨p, fun _ => rfl, ⟨(fun q h => by cases h), fun q h => (by cases h), (fun f h => by cases h), (aAllc ⟨_, rfl, (fF_b (r := 737) (by decide) rfl).mpr q0⟩ (fun f h => by cases h))⟩, [], List.mem_cons_self, fun f h => (by cases h)⟩

