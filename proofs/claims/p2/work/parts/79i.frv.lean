/-! rules of the reader: their proofs -/
set_option maxRecDepth 8192 in
theorem rw_ruRDo {K : Nat → Nat} {n : Nat} : aGho (fF K n) fa_T K n (fJX K n) ag_ruRDo := by
  refine aGho_of ⟨rfl, rfl⟩ ?_
  intro p σ ρ hH hX hA hM
  have hG := aAG_of hA.1 (fun i e v he hv => (hA.2 i e v he hv).1)
  clear hA
  obtain ⟨v0, v1, v2, v3, v4, v5, v6, rfl, g0, g1, g2, g3, g4, g5, g6⟩ := fA_7 hG
  clear hG
  obtain ⟨x0, rfl, b0, d0⟩ := fG_ref (by decide) g0
  obtain ⟨x1, rfl, b1, d1⟩ := fG_ref (by decide) g1
  obtain ⟨x2, rfl, b2, d2⟩ := aG_int g2
  dsimp only at b2 d2
  obtain ⟨x3, rfl, b3, d3⟩ := aG_int g3
  dsimp only at b3 d3
  obtain ⟨x4, rfl, b4, d4⟩ := aG_int g4
  dsimp only at b4 d4
  obtain ⟨x5, rfl, b5, d5⟩ := aG_int g5
  dsimp only at b5 d5
  obtain ⟨x6, rfl, b6, d6⟩ := fG_ref (by decide) g6
  obtain ⟨m1, m2, m3, m4⟩ := hM
  obtain ⟨a0, c0, fs0, w0, e1, s0, t0, e4⟩ := m1 (0, 9, 2) (List.mem_of_getElem? (i := 0) rfl)
  obtain rfl : x0 = a0 := Sum.inl.inj (Option.some.inj (Sum.inr.inj (Sum.inr.inj (Option.some.inj (show some (fR x0) = some _ from e1)))))
  obtain rfl : fI x2 = w0 := Option.some.inj (show some (fI x2) = some w0 from e4)
  clear e1 e4
  obtain ⟨a1, c1, fs1, w1, e1, s1, t1, e4⟩ := m1 (0, 10, 3) (List.mem_of_getElem? (i := 1) rfl)
  obtain rfl : x0 = a1 := Sum.inl.inj (Option.some.inj (Sum.inr.inj (Sum.inr.inj (Option.some.inj (show some (fR x0) = some _ from e1)))))
  obtain rfl : fI x3 = w1 := Option.some.inj (show some (fI x3) = some w1 from e4)
  clear e1 e4
  obtain ⟨a2, c2, fs2, w2, e1, s2, t2, e4⟩ := m1 (0, 11, 4) (List.mem_of_getElem? (i := 2) rfl)
  obtain rfl : x0 = a2 := Sum.inl.inj (Option.some.inj (Sum.inr.inj (Sum.inr.inj (Option.some.inj (show some (fR x0) = some _ from e1)))))
  obtain rfl : fI x4 = w2 := Option.some.inj (show some (fI x4) = some w2 from e4)
  clear e1 e4
  obtain ⟨a3, c3, fs3, w3, e1, s3, t3, e4⟩ := m1 (1, 1, 5) (List.mem_of_getElem? (i := 3) rfl)
  obtain rfl : x1 = a3 := Sum.inl.inj (Option.some.inj (Sum.inr.inj (Sum.inr.inj (Option.some.inj (show some (fR x1) = some _ from e1)))))
  obtain rfl : fI x5 = w3 := Option.some.inj (show some (fI x5) = some w3 from e4)
  clear e1 e4
  obtain ⟨a4, c4, fs4, w4, e1, s4, t4, e4⟩ := m1 (0, 2, 6) (List.mem_of_getElem? (i := 4) rfl)
  obtain rfl : x0 = a4 := Sum.inl.inj (Option.some.inj (Sum.inr.inj (Sum.inr.inj (Option.some.inj (show some (fR x0) = some _ from e1)))))
  obtain rfl : fR x6 = w4 := Option.some.inj (show some (fR x6) = some w4 from e4)
  clear e1 e4
  have f0 : fB K n p 121 [fR x0, fR x1] σ := by
    obtain ⟨w, e6, e7⟩ := m4 (1938, [0, 1]) (List.mem_of_getElem? (i := 0) rfl)
    obtain rfl : [fR x0, fR x1] = w := Option.some.inj (show some [fR x0, fR x1] = some w from e6)
    exact (fF_b (r := 1938) (by decide) rfl).mp e7
  clear m1 m2 m3 m4
  obtain ⟨g, a, e, hR⟩ := f0
  cases e
  obtain ⟨T, ⟨s, h, os, us, hs⟩, o, N, gg, oo, uN, ou, hj⟩ := hR.resolve_left (fun ⟨x, ox, hx⟩ => hx (by have h9 := fOb_i ox s0 t0; rw [← h9]; omega))
  obtain rfl := fOb_i os s1 t1
  obtain rfl := fOb_i oo s2 t2
  obtain rfl := fFi_i uN s3 t3
  have q0 : fB K n (p) 100 [fR x1] σ := by
    exact fTG_to T
  have q1 : fB K n (p) 122 [fR x0, fI x4, fI x5] σ := by
    exact ⟨_, _, _, gg, rfl, ou, hj⟩
  have q2 : fB K n (p) 123 [fR x1, fI x3] σ := by
    exact ⟨_, _, h, rfl, us, hs⟩
  exact ⟨p, fun _ => rfl, ⟨(fun q h => by cases h), fun q h => (by cases h), (fun f h => by cases h), (aAllc ⟨_, rfl, (fF_b (r := 1601) (by decide) rfl).mpr q0⟩ (aAllc ⟨_, rfl, (fF_b (r := 1955) (by decide) rfl).mpr q1⟩ (aAllc ⟨_, rfl, (fF_b (r := 1970) (by decide) rfl).mpr q2⟩ (fun f h => by cases h))))⟩, [], List.mem_cons_self, fun f h => (by cases h)⟩
set_option maxRecDepth 8192 in
theorem rw_ruRDf {K : Nat → Nat} {n : Nat} : aGho (fF K n) fa_T K n (fJX K n) ag_ruRDf := by
  refine aGho_of ⟨rfl, rfl⟩ ?_
  intro p σ ρ hH hX hA hM
  have hG := aAG_of hA.1 (fun i e v he hv => (hA.2 i e v he hv).1)
  clear hA
  obtain ⟨v0, v1, v2, rfl, g0, g1, g2⟩ := fA_3 hG
  clear hG
  obtain ⟨x0, rfl, b0, d0⟩ := fG_ref (by decide) g0
  obtain ⟨x1, rfl, b1, d1⟩ := fG_ref (by decide) g1
  obtain ⟨x2, rfl, b2, d2⟩ := aG_int g2
  dsimp only at b2 d2
  obtain ⟨m1, m2, m3, m4⟩ := hM
  obtain ⟨a0, c0, fs0, w0, e1, s0, t0, e4⟩ := m1 (0, 9, 2) (List.mem_of_getElem? (i := 0) rfl)
  obtain rfl : x0 = a0 := Sum.inl.inj (Option.some.inj (Sum.inr.inj (Sum.inr.inj (Option.some.inj (show some (fR x0) = some _ from e1)))))
  obtain rfl : fI x2 = w0 := Option.some.inj (show some (fI x2) = some w0 from e4)
  clear e1 e4
  clear m1 m2 m3 m4
  have q0 : fB K n (p) 121 [fR x0, fR x1] σ := by
    exact ⟨_, _, rfl, Or.inl ⟨x2, ⟨b0, d0, _, _, s0, t0⟩, by omega⟩⟩
  exact ⟨p, fun _ => rfl, ⟨(fun q h => by cases h), fun q h => (by cases h), (fun f h => by cases h), (aAllc ⟨_, rfl, (fF_b (r := 1938) (by decide) rfl).mpr q0⟩ (fun f h => by cases h))⟩, [], List.mem_cons_self, fun f h => (by cases h)⟩
set_option maxRecDepth 8192 in
theorem rw_ruRDc {K : Nat → Nat} {n : Nat} : aGho (fF K n) fa_T K n (fJX K n) ag_ruRDc := by
  refine aGho_of ⟨rfl, rfl⟩ ?_
  intro p σ ρ hH hX hA hM
  have hG := aAG_of hA.1 (fun i e v he hv => (hA.2 i e v he hv).1)
  clear hA
  obtain ⟨v0, v1, v2, v3, v4, v5, v6, v7, rfl, g0, g1, g2, g3, g4, g5, g6, g7⟩ := fA_8 hG
  clear hG
  obtain ⟨x0, rfl, b0, d0⟩ := fG_ref (by decide) g0
  obtain ⟨x1, rfl, b1, d1⟩ := fG_ref (by decide) g1
  obtain ⟨x2, rfl, b2, d2⟩ := aG_int g2
  dsimp only at b2 d2
  obtain ⟨x3, rfl, b3, d3⟩ := aG_int g3
  dsimp only at b3 d3
  obtain ⟨x4, rfl, b4, d4⟩ := aG_int g4
  dsimp only at b4 d4
  obtain ⟨x5, rfl, b5, d5⟩ := aG_int g5
  dsimp only at b5 d5
  obtain ⟨x6, rfl, b6, d6⟩ := aG_int g6
  dsimp only at b6 d6
  obtain ⟨x7, rfl, b7, d7⟩ := aG_int g7
  dsimp only at b7 d7
  obtain ⟨m1, m2, m3, m4⟩ := hM
  obtain ⟨a0, c0, fs0, w0, e1, s0, t0, e4⟩ := m1 (0, 10, 2) (List.mem_of_getElem? (i := 0) rfl)
  obtain rfl : x0 = a0 := Sum.inl.inj (Option.some.inj (Sum.inr.inj (Sum.inr.inj (Option.some.inj (show some (fR x0) = some _ from e1)))))
  obtain rfl : fI x2 = w0 := Option.some.inj (show some (fI x2) = some w0 from e4)
  clear e1 e4
  obtain ⟨a1, c1, fs1, w1, e1, s1, t1, e4⟩ := m1 (0, 11, 3) (List.mem_of_getElem? (i := 1) rfl)
  obtain rfl : x0 = a1 := Sum.inl.inj (Option.some.inj (Sum.inr.inj (Sum.inr.inj (Option.some.inj (show some (fR x0) = some _ from e1)))))
  obtain rfl : fI x3 = w1 := Option.some.inj (show some (fI x3) = some w1 from e4)
  clear e1 e4
  obtain ⟨a2, c2, fs2, w2, e1, s2, t2, e4⟩ := m1 (1, 1, 4) (List.mem_of_getElem? (i := 2) rfl)
  obtain rfl : x1 = a2 := Sum.inl.inj (Option.some.inj (Sum.inr.inj (Sum.inr.inj (Option.some.inj (show some (fR x1) = some _ from e1)))))
  obtain rfl : fI x4 = w2 := Option.some.inj (show some (fI x4) = some w2 from e4)
  clear e1 e4
  obtain ⟨a3, c3, fs3, w3, e1, s3, t3, e4⟩ := m1 (0, 9, 7) (List.mem_of_getElem? (i := 3) rfl)
  obtain rfl : x0 = a3 := Sum.inl.inj (Option.some.inj (Sum.inr.inj (Sum.inr.inj (Option.some.inj (show some (fR x0) = some _ from e1)))))
  obtain rfl : fI x7 = w3 := Option.some.inj (show some (fI x7) = some w3 from e4)
  clear e1 e4
  have l0 : 0 ≤ (1 * x5.toInt + (-1 * x3.toInt + 0)) + 0 := by
    obtain ⟨z, e6, e7⟩ := m3 ([(5, 1), (3, -1)], 0) (List.mem_of_getElem? (i := 0) rfl)
    obtain rfl : (1 * x5.toInt + (-1 * x3.toInt + 0)) = z := Option.some.inj (show some (1 * x5.toInt + (-1 * x3.toInt + 0)) = some z from e6)
    exact e7
  have l1 : 0 ≤ (1 * x4.toInt + (-1 * x6.toInt + 0)) + 0 := by
    obtain ⟨z, e6, e7⟩ := m3 ([(4, 1), (6, -1)], 0) (List.mem_of_getElem? (i := 1) rfl)
    obtain rfl : (1 * x4.toInt + (-1 * x6.toInt + 0)) = z := Option.some.inj (show some (1 * x4.toInt + (-1 * x6.toInt + 0)) = some z from e6)
    exact e7
  have f0 : fB K n p 100 [fR x1] σ := by
    obtain ⟨w, e6, e7⟩ := m4 (1601, [1]) (List.mem_of_getElem? (i := 0) rfl)
    obtain rfl : [fR x1] = w := Option.some.inj (show some [fR x1] = some w from e6)
    exact (fF_b (r := 1601) (by decide) rfl).mp e7
  have f1 : fB K n p 122 [fR x0, fI x5, fI x6] σ := by
    obtain ⟨w, e6, e7⟩ := m4 (1955, [0, 5, 6]) (List.mem_of_getElem? (i := 1) rfl)
    obtain rfl : [fR x0, fI x5, fI x6] = w := Option.some.inj (show some [fR x0, fI x5, fI x6] = some w from e6)
    exact (fF_b (r := 1955) (by decide) rfl).mp e7
  have f2 : fB K n p 123 [fR x1, fI x2] σ := by
    obtain ⟨w, e6, e7⟩ := m4 (1970, [1, 2]) (List.mem_of_getElem? (i := 2) rfl)
    obtain rfl : [fR x1, fI x2] = w := Option.some.inj (show some [fR x1, fI x2] = some w from e6)
    exact (fF_b (r := 1970) (by decide) rfl).mp e7
  clear m1 m2 m3 m4
  obtain ⟨g8, m8, k8, gg, e8, ou, hj⟩ := f1
  cases e8
  obtain ⟨a7, s7, h7, e7, u7, z7⟩ := f2
  cases e7
  have q0 : fB K n (p) 121 [fR x0, fR x1] σ := by
    exact ⟨_, _, rfl, Or.inr ⟨fTG_of f0, ⟨x2, h7, ⟨b0, d0, _, _, s0, t0⟩, u7, z7⟩, x3, x4, gg, ⟨b0, d0, _, _, s1, t1⟩, fFi_mk hH b1 d1 s2 t2, ou, fun j hj2 => by have h9 := hj j (by omega); omega⟩⟩
  exact ⟨p, fun _ => rfl, ⟨(fun q h => by cases h), fun q h => (by cases h), (fun f h => by cases h), (aAllc ⟨_, rfl, (fF_b (r := 1938) (by decide) rfl).mpr q0⟩ (fun f h => by cases h))⟩, [], List.mem_cons_self, fun f h => (by cases h)⟩
set_option maxRecDepth 8192 in
theorem rw_ruSH1 {K : Nat → Nat} {n : Nat} : aGho (fF K n) fa_T K n (fJX K n) ag_ruSH1 := by
  refine aGho_of ⟨rfl, rfl⟩ ?_
  intro p σ ρ hH hX hA hM
  have hG := aAG_of hA.1 (fun i e v he hv => (hA.2 i e v he hv).1)
  clear hA
  obtain ⟨v0, v1, v2, rfl, g0, g1, g2⟩ := fA_3 hG
  clear hG
  obtain ⟨x0, rfl, b0, d0⟩ := fG_ref (by decide) g0
  obtain ⟨x1, rfl, b1, d1⟩ := aG_int g1
  dsimp only at b1 d1
  obtain ⟨x2, rfl, b2, d2⟩ := aG_int g2
  dsimp only at b2 d2
  obtain ⟨m1, m2, m3, m4⟩ := hM
  obtain ⟨a0, c0, fs0, w0, e1, s0, t0, e4⟩ := m1 (0, 2, 2) (List.mem_of_getElem? (i := 0) rfl)
  obtain rfl : x0 = a0 := Sum.inl.inj (Option.some.inj (Sum.inr.inj (Sum.inr.inj (Option.some.inj (show some (fR x0) = some _ from e1)))))
  obtain rfl : fI x2 = w0 := Option.some.inj (show some (fI x2) = some w0 from e4)
  clear e1 e4
  clear m1 m2 m3 m4
  have q0 : fB K n (p) 123 [fR x0, fI x1] σ := by
    exact ⟨_, _, x2, rfl, fFi_mk hH b0 d0 s0 t0, fun _ _ => by omega⟩
  exact ⟨p, fun _ => rfl, ⟨(fun q h => by cases h), fun q h => (by cases h), (fun f h => by cases h), (aAllc ⟨_, rfl, (fF_b (r := 1970) (by decide) rfl).mpr q0⟩ (fun f h => by cases h))⟩, [], List.mem_cons_self, fun f h => (by cases h)⟩
set_option maxRecDepth 8192 in
theorem rw_ruSH0 {K : Nat → Nat} {n : Nat} : aGho (fF K n) fa_T K n (fJX K n) ag_ruSH0 := by
  refine aGho_of ⟨rfl, rfl⟩ ?_
  intro p σ ρ hH hX hA hM
  have hG := aAG_of hA.1 (fun i e v he hv => (hA.2 i e v he hv).1)
  clear hA
  obtain ⟨v0, v1, v2, rfl, g0, g1, g2⟩ := fA_3 hG
  clear hG
  obtain ⟨x0, rfl, b0, d0⟩ := fG_ref (by decide) g0
  obtain ⟨x1, rfl, b1, d1⟩ := aG_int g1
  dsimp only at b1 d1
  obtain ⟨x2, rfl, b2, d2⟩ := aG_int g2
  dsimp only at b2 d2
  obtain ⟨m1, m2, m3, m4⟩ := hM
  obtain ⟨a0, c0, fs0, w0, e1, s0, t0, e4⟩ := m1 (0, 2, 2) (List.mem_of_getElem? (i := 0) rfl)
  obtain rfl : x0 = a0 := Sum.inl.inj (Option.some.inj (Sum.inr.inj (Sum.inr.inj (Option.some.inj (show some (fR x0) = some _ from e1)))))
  obtain rfl : fI x2 = w0 := Option.some.inj (show some (fI x2) = some w0 from e4)
  clear e1 e4
  clear m1 m2 m3 m4
  have q0 : fB K n (p) 123 [fR x0, fI x1] σ := by
    exact ⟨_, _, x2, rfl, fFi_mk hH b0 d0 s0 t0, fun _ _ => by omega⟩
  exact ⟨p, fun _ => rfl, ⟨(fun q h => by cases h), fun q h => (by cases h), (fun f h => by cases h), (aAllc ⟨_, rfl, (fF_b (r := 1970) (by decide) rfl).mpr q0⟩ (fun f h => by cases h))⟩, [], List.mem_cons_self, fun f h => (by cases h)⟩
set_option maxRecDepth 8192 in
theorem rw_ruSH5 {K : Nat → Nat} {n : Nat} : aGho (fF K n) fa_T K n (fJX K n) ag_ruSH5 := by
  refine aGho_of ⟨rfl, rfl⟩ ?_
  intro p σ ρ hH hX hA hM
  have hG := aAG_of hA.1 (fun i e v he hv => (hA.2 i e v he hv).1)
  clear hA
  obtain ⟨v0, v1, v2, rfl, g0, g1, g2⟩ := fA_3 hG
  clear hG
  obtain ⟨x0, rfl, b0, d0⟩ := fG_ref (by decide) g0
  obtain ⟨x1, rfl, b1, d1⟩ := aG_int g1
  dsimp only at b1 d1
  obtain ⟨x2, rfl, b2, d2⟩ := aG_int g2
  dsimp only at b2 d2
  obtain ⟨m1, m2, m3, m4⟩ := hM
  obtain ⟨a0, c0, fs0, w0, e1, s0, t0, e4⟩ := m1 (0, 2, 2) (List.mem_of_getElem? (i := 0) rfl)
  obtain rfl : x0 = a0 := Sum.inl.inj (Option.some.inj (Sum.inr.inj (Sum.inr.inj (Option.some.inj (show some (fR x0) = some _ from e1)))))
  obtain rfl : fI x2 = w0 := Option.some.inj (show some (fI x2) = some w0 from e4)
  clear e1 e4
  clear m1 m2 m3 m4
  have q0 : fB K n (p) 123 [fR x0, fI x1] σ := by
    exact ⟨_, _, x2, rfl, fFi_mk hH b0 d0 s0 t0, fun _ _ => by omega⟩
  exact ⟨p, fun _ => rfl, ⟨(fun q h => by cases h), fun q h => (by cases h), (fun f h => by cases h), (aAllc ⟨_, rfl, (fF_b (r := 1970) (by decide) rfl).mpr q0⟩ (fun f h => by cases h))⟩, [], List.mem_cons_self, fun f h => (by cases h)⟩
set_option maxRecDepth 8192 in
theorem rw_ruSHk {K : Nat → Nat} {n : Nat} : aGho (fF K n) fa_T K n (fJX K n) ag_ruSHk := by
  refine aGho_of ⟨rfl, rfl⟩ ?_
  intro p σ ρ hH hX hA hM
  have hG := aAG_of hA.1 (fun i e v he hv => (hA.2 i e v he hv).1)
  clear hA
  obtain ⟨v0, v1, v2, rfl, g0, g1, g2⟩ := fA_3 hG
  clear hG
  obtain ⟨x0, rfl, b0, d0⟩ := fG_ref (by decide) g0
  obtain ⟨x1, rfl, b1, d1⟩ := aG_int g1
  dsimp only at b1 d1
  obtain ⟨x2, rfl, b2, d2⟩ := aG_int g2
  dsimp only at b2 d2
  obtain ⟨m1, m2, m3, m4⟩ := hM
  have f0 : fB K n p 123 [fR x0, fI x1] σ := by
    obtain ⟨w, e6, e7⟩ := m4 (1970, [0, 1]) (List.mem_of_getElem? (i := 0) rfl)
    obtain rfl : [fR x0, fI x1] = w := Option.some.inj (show some [fR x0, fI x1] = some w from e6)
    exact (fF_b (r := 1970) (by decide) rfl).mp e7
  clear m1 m2 m3 m4
  obtain ⟨a7, s7, h7, e7, u7, z7⟩ := f0
  cases e7
  have q0 : fB K n (p) 123 [fR x0, fI x2] σ := by
    exact ⟨_, _, h7, rfl, u7, fun _ _ => z7 (by omega) (by omega)⟩
  exact ⟨p, fun _ => rfl, ⟨(fun q h => by cases h), fun q h => (by cases h), (fun f h => by cases h), (aAllc ⟨_, rfl, (fF_b (r := 1970) (by decide) rfl).mpr q0⟩ (fun f h => by cases h))⟩, [], List.mem_cons_self, fun f h => (by cases h)⟩
set_option maxRecDepth 8192 in
theorem rw_ruSHh {K : Nat → Nat} {n : Nat} : aGho (fF K n) fa_T K n (fJX K n) ag_ruSHh := by
  refine aGho_of ⟨rfl, rfl⟩ ?_
  intro p σ ρ hH hX hA hM
  have hG := aAG_of hA.1 (fun i e v he hv => (hA.2 i e v he hv).1)
  clear hA
  obtain ⟨v0, v1, v2, rfl, g0, g1, g2⟩ := fA_3 hG
  clear hG
  obtain ⟨x0, rfl, b0, d0⟩ := fG_ref (by decide) g0
  obtain ⟨x1, rfl, b1, d1⟩ := aG_int g1
  dsimp only at b1 d1
  obtain ⟨x2, rfl, b2, d2⟩ := aG_int g2
  dsimp only at b2 d2
  obtain ⟨m1, m2, m3, m4⟩ := hM
  obtain ⟨a0, c0, fs0, w0, e1, s0, t0, e4⟩ := m1 (0, 2, 2) (List.mem_of_getElem? (i := 0) rfl)
  obtain rfl : x0 = a0 := Sum.inl.inj (Option.some.inj (Sum.inr.inj (Sum.inr.inj (Option.some.inj (show some (fR x0) = some _ from e1)))))
  obtain rfl : fI x2 = w0 := Option.some.inj (show some (fI x2) = some w0 from e4)
  clear e1 e4
  have f0 : fB K n p 123 [fR x0, fI x1] σ := by
    obtain ⟨w, e6, e7⟩ := m4 (1970, [0, 1]) (List.mem_of_getElem? (i := 0) rfl)
    obtain rfl : [fR x0, fI x1] = w := Option.some.inj (show some [fR x0, fI x1] = some w from e6)
    exact (fF_b (r := 1970) (by decide) rfl).mp e7
  clear m1 m2 m3 m4
  obtain ⟨a7, s7, h7, e7, u7, z7⟩ := f0
  cases e7
  obtain rfl := fFi_i u7 s0 t0
  have h9 := z7 (by omega) (by omega)
  have r0 : 0 ≤ (1 * x2.toInt + 0) + -1 := by
    omega
  exact ⟨p, fun _ => rfl, ⟨(fun q h => by cases h), fun q h => (by cases h), (aAllc ⟨_, rfl, r0⟩ (fun f h => by cases h)), (fun f h => by cases h)⟩, [], List.mem_cons_self, fun f h => (by cases h)⟩
set_option maxRecDepth 8192 in
theorem rw_ruSTx {K : Nat → Nat} {n : Nat} : aGho (fF K n) fa_T K n (fJX K n) ag_ruSTx := by
  refine aGho_of ⟨rfl, rfl⟩ ?_
  intro p σ ρ hH hX hA hM
  have hG := aAG_of hA.1 (fun i e v he hv => (hA.2 i e v he hv).1)
  clear hA
  obtain ⟨v0, v1, v2, v3, v4, v5, rfl, g0, g1, g2, g3, g4, g5⟩ := fA_6 hG
  clear hG
  obtain ⟨x0, rfl, b0, d0⟩ := fG_ref (by decide) g0
  obtain ⟨x1, rfl, b1, d1⟩ := aG_int g1
  dsimp only at b1 d1
  obtain ⟨x2, rfl, b2, d2⟩ := aG_int g2
  dsimp only at b2 d2
  obtain ⟨x3, rfl, b3, d3⟩ := aG_int g3
  dsimp only at b3 d3
  obtain ⟨x4, rfl, b4, d4⟩ := aG_int g4
  dsimp only at b4 d4
  obtain ⟨x5, rfl, b5, d5⟩ := fG_ref (by decide) g5
  obtain ⟨m1, m2, m3, m4⟩ := hM
  obtain ⟨a0, c0, fs0, w0, e1, s0, t0, e4⟩ := m1 (0, 2, 5) (List.mem_of_getElem? (i := 0) rfl)
  obtain rfl : x0 = a0 := Sum.inl.inj (Option.some.inj (Sum.inr.inj (Sum.inr.inj (Option.some.inj (show some (fR x0) = some _ from e1)))))
  obtain rfl : fR x5 = w0 := Option.some.inj (show some (fR x5) = some w0 from e4)
  clear e1 e4
  obtain ⟨a, mc0, ty0, gc0, ic0, e1, sc0, jc0, e4, e5⟩ := m2 (5, ([(3, 1)], 0), 4) (List.mem_of_getElem? (i := 0) rfl)
  obtain rfl : x5 = a := Sum.inl.inj (Option.some.inj (Sum.inr.inj (Sum.inr.inj (Option.some.inj (show some (fR x5) = some _ from e1)))))
  obtain ⟨gc0, rfl⟩ : ∃ g, gc0 = .inl g := by
    rcases gc0 with g | g
    · exact ⟨g, rfl⟩
    · exact absurd (show some (fI x4) = some (.inr (.inl (g ic0))) from e5) (fun h => by cases h)
  have sc0 : σ x5 = .inl (ty0, mc0, .inl gc0) := sc0
  have ec0 : x4 = gc0 ic0 := Sum.inl.inj (Option.some.inj (show some (fI x4) = some _ from e5))
  have kc0 : (ic0 : Int) = (1 * x3.toInt + 0) + 0 := by
    obtain ⟨z, e6, e7⟩ := e4
    obtain rfl : (1 * x3.toInt + 0) = z := Option.some.inj (show some (1 * x3.toInt + 0) = some z from e6)
    exact e7
  clear e1 e4 e5
  obtain rfl : ic0 = x3.toInt.toNat := by omega
  have l0 : 0 ≤ (1 * x1.toInt + (-1 * x3.toInt + 0)) + -1 := by
    obtain ⟨z, e6, e7⟩ := m3 ([(1, 1), (3, -1)], -1) (List.mem_of_getElem? (i := 0) rfl)
    obtain rfl : (1 * x1.toInt + (-1 * x3.toInt + 0)) = z := Option.some.inj (show some (1 * x1.toInt + (-1 * x3.toInt + 0)) = some z from e6)
    exact e7
  have f0 : fB K n p 122 [fR x0, fI x1, fI x2] σ := by
    obtain ⟨w, e6, e7⟩ := m4 (1955, [0, 1, 2]) (List.mem_of_getElem? (i := 0) rfl)
    obtain rfl : [fR x0, fI x1, fI x2] = w := Option.some.inj (show some [fR x0, fI x1, fI x2] = some w from e6)
    exact (fF_b (r := 1955) (by decide) rfl).mp e7
  clear m1 m2 m3 m4
  obtain ⟨g8, m8, k8, gg, e8, ou, hj⟩ := f0
  cases e8
  obtain rfl := fOu_c ou s0 t0 sc0
  have h9 := hj x3.toInt.toNat (by omega)
  rw [← ec0] at h9
  have r0 : 0 ≤ (1 * x4.toInt + 0) + -1 := by
    omega
  have r1 : 0 ≤ (1 * x2.toInt + (-1 * x4.toInt + 0)) + 0 := by
    omega
  exact ⟨p, fun _ => rfl, ⟨(fun q h => by cases h), fun q h => (by cases h), (aAllc ⟨_, rfl, r0⟩ (aAllc ⟨_, rfl, r1⟩ (fun f h => by cases h))), (fun f h => by cases h)⟩, [], List.mem_cons_self, fun f h => (by cases h)⟩
set_option maxRecDepth 8192 in
theorem rw_ruSTp {K : Nat → Nat} {n : Nat} : aGho (fF K n) fa_T K n (fJX K n) ag_ruSTp := by
  refine aGho_of ⟨rfl, rfl⟩ ?_
  intro p σ ρ hH hX hA hM
  have hG := aAG_of hA.1 (fun i e v he hv => (hA.2 i e v he hv).1)
  clear hA
  obtain ⟨v0, v1, v2, v3, v4, rfl, g0, g1, g2, g3, g4⟩ := fA_5 hG
  clear hG
  obtain ⟨x0, rfl, b0, d0⟩ := fG_ref (by decide) g0
  obtain ⟨x1, rfl, b1, d1⟩ := aG_int g1
  dsimp only at b1 d1
  obtain ⟨x2, rfl, b2, d2⟩ := aG_int g2
  dsimp only at b2 d2
  obtain ⟨x3, rfl, b3, d3⟩ := aG_int g3
  dsimp only at b3 d3
  obtain ⟨x4, rfl, b4, d4⟩ := fG_ref (by decide) g4
  obtain ⟨m1, m2, m3, m4⟩ := hM
  obtain ⟨a0, c0, fs0, w0, e1, s0, t0, e4⟩ := m1 (0, 2, 4) (List.mem_of_getElem? (i := 0) rfl)
  obtain rfl : x0 = a0 := Sum.inl.inj (Option.some.inj (Sum.inr.inj (Sum.inr.inj (Option.some.inj (show some (fR x0) = some _ from e1)))))
  obtain rfl : fR x4 = w0 := Option.some.inj (show some (fR x4) = some w0 from e4)
  clear e1 e4
  have l0 : 0 ≤ (1 * x2.toInt + (-1 * x3.toInt + 0)) + 0 := by
    obtain ⟨z, e6, e7⟩ := m3 ([(2, 1), (3, -1)], 0) (List.mem_of_getElem? (i := 0) rfl)
    obtain rfl : (1 * x2.toInt + (-1 * x3.toInt + 0)) = z := Option.some.inj (show some (1 * x2.toInt + (-1 * x3.toInt + 0)) = some z from e6)
    exact e7
  have f0 : fB K n p 122 [fR x0, fI x1, fI x2] σ := by
    obtain ⟨w, e6, e7⟩ := m4 (1955, [0, 1, 2]) (List.mem_of_getElem? (i := 0) rfl)
    obtain rfl : [fR x0, fI x1, fI x2] = w := Option.some.inj (show some [fR x0, fI x1, fI x2] = some w from e6)
    exact (fF_b (r := 1955) (by decide) rfl).mp e7
  clear m1 m2 m3 m4
  obtain ⟨g8, m8, k8, gg, e8, ou, hj⟩ := f0
  cases e8
  have q0 : fB K n (p) 129 [fR x0, fI x1, fI x2] (jup σ x4 (jsto (σ x4) x1.toNatClampNeg x3)) := by
    refine ⟨_, _, _, upd gg x1.toInt.toNat x3, rfl, fOu_st ou s0 t0, fun j hj2 => ?_⟩
    unfold upd
    split
    · omega
    · exact hj j (by omega)
  exact ⟨p, fun _ => rfl, ⟨(fun q h => by cases h), fun q h => (by cases h), (fun f h => by cases h), (aAllc ⟨_, rfl, fF_p (r := 2067) (by decide) (by decide) rfl q0⟩ (fun f h => by cases h))⟩, [], List.mem_cons_self, fun f h => (by cases h)⟩
set_option maxRecDepth 8192 in
theorem rw_ruSTy {K : Nat → Nat} {n : Nat} : aGho (fF K n) fa_T K n (fJX K n) ag_ruSTy := by
  refine aGho_of ⟨rfl, rfl⟩ ?_
  intro p σ ρ hH hX hA hM
  have hG := aAG_of hA.1 (fun i e v he hv => (hA.2 i e v he hv).1)
  clear hA
  obtain ⟨v0, v1, v2, v3, rfl, g0, g1, g2, g3⟩ := fA_4 hG
  clear hG
  obtain ⟨x0, rfl, b0, d0⟩ := fG_ref (by decide) g0
  obtain ⟨x1, rfl, b1, d1⟩ := aG_int g1
  dsimp only at b1 d1
  obtain ⟨x2, rfl, b2, d2⟩ := aG_int g2
  dsimp only at b2 d2
  obtain ⟨x3, rfl, b3, d3⟩ := aG_int g3
  dsimp only at b3 d3
  obtain ⟨m1, m2, m3, m4⟩ := hM
  have l0 : 0 ≤ (1 * x3.toInt + (-1 * x1.toInt + 0)) + -1 := by
    obtain ⟨z, e6, e7⟩ := m3 ([(3, 1), (1, -1)], -1) (List.mem_of_getElem? (i := 0) rfl)
    obtain rfl : (1 * x3.toInt + (-1 * x1.toInt + 0)) = z := Option.some.inj (show some (1 * x3.toInt + (-1 * x1.toInt + 0)) = some z from e6)
    exact e7
  have l1 : 0 ≤ (-1 * x3.toInt + (1 * x1.toInt + 0)) + 1 := by
    obtain ⟨z, e6, e7⟩ := m3 ([(3, -1), (1, 1)], 1) (List.mem_of_getElem? (i := 1) rfl)
    obtain rfl : (-1 * x3.toInt + (1 * x1.toInt + 0)) = z := Option.some.inj (show some (-1 * x3.toInt + (1 * x1.toInt + 0)) = some z from e6)
    exact e7
  have f0 : fB K n p 129 [fR x0, fI x1, fI x2] σ := by
    obtain ⟨w, e6, e7⟩ := m4 (2067, [0, 1, 2]) (List.mem_of_getElem? (i := 0) rfl)
    obtain rfl : [fR x0, fI x1, fI x2] = w := Option.some.inj (show some [fR x0, fI x1, fI x2] = some w from e6)
    exact (fF_b (r := 2067) (by decide) rfl).mp e7
  clear m1 m2 m3 m4
  obtain ⟨g8, m8, k8, gg, e8, ou, hj⟩ := f0
  cases e8
  have q0 : fB K n (p) 122 [fR x0, fI x3, fI x2] σ := by
    exact ⟨_, _, _, gg, rfl, ou, fun j hj2 => hj j (by omega)⟩
  exact ⟨p, fun _ => rfl, ⟨(fun q h => by cases h), fun q h => (by cases h), (fun f h => by cases h), (aAllc ⟨_, rfl, (fF_b (r := 1955) (by decide) rfl).mpr q0⟩ (fun f h => by cases h))⟩, [], List.mem_cons_self, fun f h => (by cases h)⟩
set_option maxRecDepth 8192 in
theorem rw_ruST0 {K : Nat → Nat} {n : Nat} : aGho (fF K n) fa_T K n (fJX K n) ag_ruST0 := by
  refine aGho_of ⟨rfl, rfl⟩ ?_
  intro p σ ρ hH hX hA hM
  have hG := aAG_of hA.1 (fun i e v he hv => (hA.2 i e v he hv).1)
  clear hA
  obtain ⟨v0, v1, v2, v3, rfl, g0, g1, g2, g3⟩ := fA_4 hG
  clear hG
  obtain ⟨x0, rfl, b0, d0⟩ := fG_ref (by decide) g0
  obtain ⟨x1, rfl, b1, d1⟩ := aG_int g1
  dsimp only at b1 d1
  obtain ⟨x2, rfl, b2, d2⟩ := aG_int g2
  dsimp only at b2 d2
  obtain ⟨x3, rfl, b3, d3⟩ := fG_ref (by decide) g3
  obtain ⟨m1, m2, m3, m4⟩ := hM
  obtain ⟨a0, c0, fs0, w0, e1, s0, t0, e4⟩ := m1 (0, 2, 3) (List.mem_of_getElem? (i := 0) rfl)
  obtain rfl : x0 = a0 := Sum.inl.inj (Option.some.inj (Sum.inr.inj (Sum.inr.inj (Option.some.inj (show some (fR x0) = some _ from e1)))))
  obtain rfl : fR x3 = w0 := Option.some.inj (show some (fR x3) = some w0 from e4)
  clear e1 e4
  clear m1 m2 m3 m4
  obtain ⟨gg, eg⟩ := fRow hH b3 d3 (q := (.int, 6, (0, 300), [])) rfl (by intro h; cases h)
  have q0 : fB K n (p) 122 [fR x0, fI x1, fI x2] σ := by
    exact ⟨_, _, _, gg, rfl, ⟨_, ⟨b0, d0, _, _, s0, t0⟩, b3, d3, eg⟩, fun j hj2 => by omega⟩
  exact ⟨p, fun _ => rfl, ⟨(fun q h => by cases h), fun q h => (by cases h), (fun f h => by cases h), (aAllc ⟨_, rfl, (fF_b (r := 1955) (by decide) rfl).mpr q0⟩ (fun f h => by cases h))⟩, [], List.mem_cons_self, fun f h => (by cases h)⟩
set_option maxRecDepth 8192 in
theorem rw_ruFZ {K : Nat → Nat} {n : Nat} : aGho (fF K n) fa_T K n (fJX K n) ag_ruFZ := by
  refine aGho_of ⟨rfl, rfl⟩ ?_
  intro p σ ρ hH hX hA hM
  have hG := aAG_of hA.1 (fun i e v he hv => (hA.2 i e v he hv).1)
  clear hA
  obtain ⟨v0, v1, rfl, g0, g1⟩ := fA_2 hG
  clear hG
  obtain ⟨x0, rfl, b0, d0⟩ := fG_ref (by decide) g0
  obtain ⟨x1, rfl, b1, d1⟩ := aG_int g1
  dsimp only at b1 d1
  obtain ⟨m1, m2, m3, m4⟩ := hM
  obtain ⟨a0, c0, fs0, w0, e1, s0, t0, e4⟩ := m1 (0, 1, 1) (List.mem_of_getElem? (i := 0) rfl)
  obtain rfl : x0 = a0 := Sum.inl.inj (Option.some.inj (Sum.inr.inj (Sum.inr.inj (Option.some.inj (show some (fR x0) = some _ from e1)))))
  obtain rfl : fI x1 = w0 := Option.some.inj (show some (fI x1) = some w0 from e4)
  clear e1 e4
  have f0 : fB K n p 100 [fR x0] σ := by
    obtain ⟨w, e6, e7⟩ := m4 (1601, [0]) (List.mem_of_getElem? (i := 0) rfl)
    obtain rfl : [fR x0] = w := Option.some.inj (show some [fR x0] = some w from e6)
    exact (fF_b (r := 1601) (by decide) rfl).mp e7
  clear m1 m2 m3 m4
  obtain ⟨b, h, N, t, q, w, u0, u1, u2, h0, N0, H, A⟩ := fTG_of f0
  obtain rfl := fFi_i u1 s0 t0
  have q0 : fB K n (p) 124 [fR x0] σ := by
    exact ⟨_, t.2.2.1, rfl, w.2.2.1, fTk_f0 H (by omega)⟩
  exact ⟨p, fun _ => rfl, ⟨(fun q h => by cases h), fun q h => (by cases h), (fun f h => by cases h), (aAllc ⟨_, rfl, (fF_b (r := 1985) (by decide) rfl).mpr q0⟩ (fun f h => by cases h))⟩, [], List.mem_cons_self, fun f h => (by cases h)⟩
set_option maxRecDepth 8192 in
theorem rw_ruFZc {K : Nat → Nat} {n : Nat} : aGho (fF K n) fa_T K n (fJX K n) ag_ruFZc := by
  refine aGho_of ⟨rfl, rfl⟩ ?_
  intro p σ ρ hH hX hA hM
  have hG := aAG_of hA.1 (fun i e v he hv => (hA.2 i e v he hv).1)
  clear hA
  obtain ⟨v0, v1, v2, rfl, g0, g1, g2⟩ := fA_3 hG
  clear hG
  obtain ⟨x0, rfl, b0, d0⟩ := fG_ref (by decide) g0
  obtain ⟨x1, rfl, b1, d1⟩ := fG_ref (by decide) g1
  obtain ⟨x2, rfl, b2, d2⟩ := aG_int g2
  dsimp only at b2 d2
  obtain ⟨m1, m2, m3, m4⟩ := hM
  obtain ⟨a0, c0, fs0, w0, e1, s0, t0, e4⟩ := m1 (0, 5, 1) (List.mem_of_getElem? (i := 0) rfl)
  obtain rfl : x0 = a0 := Sum.inl.inj (Option.some.inj (Sum.inr.inj (Sum.inr.inj (Option.some.inj (show some (fR x0) = some _ from e1)))))
  obtain rfl : fR x1 = w0 := Option.some.inj (show some (fR x1) = some w0 from e4)
  clear e1 e4
  obtain ⟨a, mc0, ty0, gc0, ic0, e1, sc0, jc0, e4, e5⟩ := m2 (1, ([], 0), 2) (List.mem_of_getElem? (i := 0) rfl)
  obtain rfl : x1 = a := Sum.inl.inj (Option.some.inj (Sum.inr.inj (Sum.inr.inj (Option.some.inj (show some (fR x1) = some _ from e1)))))
  obtain ⟨gc0, rfl⟩ : ∃ g, gc0 = .inl g := by
    rcases gc0 with g | g
    · exact ⟨g, rfl⟩
    · exact absurd (show some (fI x2) = some (.inr (.inl (g ic0))) from e5) (fun h => by cases h)
  have sc0 : σ x1 = .inl (ty0, mc0, .inl gc0) := sc0
  have ec0 : x2 = gc0 ic0 := Sum.inl.inj (Option.some.inj (show some (fI x2) = some _ from e5))
  have kc0 : (ic0 : Int) = 0 + 0 := by
    obtain ⟨z, e6, e7⟩ := e4
    obtain rfl : 0 = z := Option.some.inj (show some 0 = some z from e6)
    exact e7
  clear e1 e4 e5
  clear m1 m2 m3 m4
  obtain ⟨fi, wfi, efi⟩ := fRo_mk hH b0 d0 s0 t0 b1 d1 (q := ((0, 300), [])) rfl
  rw [sc0] at efi
  cases efi
  have q0 : fB K n (p) 124 [fR x0] σ := by
    exact ⟨_, gc0, rfl, wfi, by rw [show (0 : Nat) = ic0 by omega, ← ec0]; omega⟩
  exact ⟨p, fun _ => rfl, ⟨(fun q h => by cases h), fun q h => (by cases h), (fun f h => by cases h), (aAllc ⟨_, rfl, (fF_b (r := 1985) (by decide) rfl).mpr q0⟩ (fun f h => by cases h))⟩, [], List.mem_cons_self, fun f h => (by cases h)⟩
set_option maxRecDepth 8192 in
theorem rw_ruNEW {K : Nat → Nat} {n : Nat} : aGho (fF K n) fa_T K n (fJX K n) ag_ruNEW := by
  refine aGho_of ⟨rfl, rfl⟩ ?_
  intro p σ ρ hH hX hA hM
  have hG := aAG_of hA.1 (fun i e v he hv => (hA.2 i e v he hv).1)
  clear hA
  obtain ⟨v0, v1, v2, v3, v4, v5, v6, v7, v8, rfl, g0, g1, g2, g3, g4, g5, g6, g7, g8⟩ := fA_9 hG
  clear hG
  obtain ⟨x0, rfl, b0, d0⟩ := fG_ref (by decide) g0
  obtain ⟨x1, rfl, b1, d1⟩ := fG_ref (by decide) g1
  obtain ⟨x2, rfl, b2, d2⟩ := aG_int g2
  dsimp only at b2 d2
  obtain ⟨x3, rfl, b3, d3⟩ := aG_int g3
  dsimp only at b3 d3
  obtain ⟨x4, rfl, b4, d4⟩ := fG_ref (by decide) g4
  obtain ⟨x5, rfl, b5, d5⟩ := fG_ref (by decide) g5
  obtain ⟨x6, rfl, b6, d6⟩ := fG_ref (by decide) g6
  obtain ⟨x7, rfl, b7, d7⟩ := fG_ref (by decide) g7
  obtain ⟨x8, rfl, b8, d8⟩ := fG_ref (by decide) g8
  obtain ⟨m1, m2, m3, m4⟩ := hM
  obtain ⟨a0, c0, fs0, w0, e1, s0, t0, e4⟩ := m1 (0, 0, 1) (List.mem_of_getElem? (i := 0) rfl)
  obtain rfl : x0 = a0 := Sum.inl.inj (Option.some.inj (Sum.inr.inj (Sum.inr.inj (Option.some.inj (show some (fR x0) = some _ from e1)))))
  obtain rfl : fR x1 = w0 := Option.some.inj (show some (fR x1) = some w0 from e4)
  clear e1 e4
  obtain ⟨a1, c1, fs1, w1, e1, s1, t1, e4⟩ := m1 (0, 2, 2) (List.mem_of_getElem? (i := 1) rfl)
  obtain rfl : x0 = a1 := Sum.inl.inj (Option.some.inj (Sum.inr.inj (Sum.inr.inj (Option.some.inj (show some (fR x0) = some _ from e1)))))
  obtain rfl : fI x2 = w1 := Option.some.inj (show some (fI x2) = some w1 from e4)
  clear e1 e4
  obtain ⟨a2, c2, fs2, w2, e1, s2, t2, e4⟩ := m1 (0, 1, 3) (List.mem_of_getElem? (i := 2) rfl)
  obtain rfl : x0 = a2 := Sum.inl.inj (Option.some.inj (Sum.inr.inj (Sum.inr.inj (Option.some.inj (show some (fR x0) = some _ from e1)))))
  obtain rfl : fI x3 = w2 := Option.some.inj (show some (fI x3) = some w2 from e4)
  clear e1 e4
  obtain ⟨a3, c3, fs3, w3, e1, s3, t3, e4⟩ := m1 (0, 3, 4) (List.mem_of_getElem? (i := 3) rfl)
  obtain rfl : x0 = a3 := Sum.inl.inj (Option.some.inj (Sum.inr.inj (Sum.inr.inj (Option.some.inj (show some (fR x0) = some _ from e1)))))
  obtain rfl : fR x4 = w3 := Option.some.inj (show some (fR x4) = some w3 from e4)
  clear e1 e4
  obtain ⟨a4, c4, fs4, w4, e1, s4, t4, e4⟩ := m1 (0, 4, 5) (List.mem_of_getElem? (i := 4) rfl)
  obtain rfl : x0 = a4 := Sum.inl.inj (Option.some.inj (Sum.inr.inj (Sum.inr.inj (Option.some.inj (show some (fR x0) = some _ from e1)))))
  obtain rfl : fR x5 = w4 := Option.some.inj (show some (fR x5) = some w4 from e4)
  clear e1 e4
  obtain ⟨a5, c5, fs5, w5, e1, s5, t5, e4⟩ := m1 (0, 5, 6) (List.mem_of_getElem? (i := 5) rfl)
  obtain rfl : x0 = a5 := Sum.inl.inj (Option.some.inj (Sum.inr.inj (Sum.inr.inj (Option.some.inj (show some (fR x0) = some _ from e1)))))
  obtain rfl : fR x6 = w5 := Option.some.inj (show some (fR x6) = some w5 from e4)
  clear e1 e4
  obtain ⟨a6, c6, fs6, w6, e1, s6, t6, e4⟩ := m1 (0, 6, 7) (List.mem_of_getElem? (i := 6) rfl)
  obtain rfl : x0 = a6 := Sum.inl.inj (Option.some.inj (Sum.inr.inj (Sum.inr.inj (Option.some.inj (show some (fR x0) = some _ from e1)))))
  obtain rfl : fR x7 = w6 := Option.some.inj (show some (fR x7) = some w6 from e4)
  clear e1 e4
  obtain ⟨a7, c7, fs7, w7, e1, s7, t7, e4⟩ := m1 (0, 7, 8) (List.mem_of_getElem? (i := 7) rfl)
  obtain rfl : x0 = a7 := Sum.inl.inj (Option.some.inj (Sum.inr.inj (Sum.inr.inj (Option.some.inj (show some (fR x0) = some _ from e1)))))
  obtain rfl : fR x8 = w7 := Option.some.inj (show some (fR x8) = some w7 from e4)
  clear e1 e4
  have f0 : fB K n p 127 [fR x1] σ := by
    obtain ⟨w, e6, e7⟩ := m4 (2033, [1]) (List.mem_of_getElem? (i := 0) rfl)
    obtain rfl : [fR x1] = w := Option.some.inj (show some [fR x1] = some w from e6)
    exact (fF_b (r := 2033) (by decide) rfl).mp e7
  have f1 : fB K n p 124 [fR x0] σ := by
    obtain ⟨w, e6, e7⟩ := m4 (1985, [0]) (List.mem_of_getElem? (i := 1) rfl)
    obtain rfl : [fR x0] = w := Option.some.inj (show some [fR x0] = some w from e6)
    exact (fF_b (r := 1985) (by decide) rfl).mp e7
  clear m1 m2 m3 m4
  obtain ⟨b, e, q, A, hg, k0, k1⟩ := f0
  cases e
  obtain ⟨a9, fi9, e9, w9, z9⟩ := f1
  cases e9
  obtain ⟨pa, wpa, epa⟩ := fRo_mk hH b0 d0 s3 t3 b4 d4 (q := ((0, 300), [])) rfl
  obtain ⟨mv, wmv, emv⟩ := fRo_mk hH b0 d0 s4 t4 b5 d5 (q := ((0, 32767), [])) rfl
  obtain ⟨fi, wfi, efi⟩ := fRo_mk hH b0 d0 s5 t5 b6 d6 (q := ((0, 300), [])) rfl
  obtain ⟨af, waf, eaf⟩ := fRo_mk hH b0 d0 s6 t6 b7 d7 (q := ((0, 300), [])) rfl
  obtain ⟨un, wun⟩ := fRl_mk hH b0 d0 s7 t7 b8 d8
  obtain rfl := fRo_u w9 wfi
  have q0 : fB K n (p) 100 [fR x0] σ := by
    refine fTG_to ⟨_, x2, x3, (pa, mv, fi9, af, un), q, ⟨wpa, wmv, wfi, waf, wun⟩, fFi_mk hH b0 d0 s0 t0, fFi_mk hH b0 d0 s2 t2, fFi_mk hH b0 d0 s1 t1, by omega, by omega, ?_, A⟩
    rw [show x3.toInt.toNat = 0 by omega, show x2.toInt.toNat = 0 by omega]
    exact fTk_new hg k0 k1 z9
  exact ⟨p, fun _ => rfl, ⟨(fun q h => by cases h), fun q h => (by cases h), (fun f h => by cases h), (aAllc ⟨_, rfl, (fF_b (r := 1601) (by decide) rfl).mpr q0⟩ (fun f h => by cases h))⟩, [], List.mem_cons_self, fun f h => (by cases h)⟩
set_option maxRecDepth 8192 in
theorem rw_ruBF {K : Nat → Nat} {n : Nat} : aGho (fF K n) fa_T K n (fJX K n) ag_ruBF := by
  refine aGho_of ⟨rfl, rfl⟩ ?_
  intro p σ ρ hH hX hA hM
  have hG := aAG_of hA.1 (fun i e v he hv => (hA.2 i e v he hv).1)
  clear hA
  obtain ⟨v0, v1, rfl, g0, g1⟩ := fA_2 hG
  clear hG
  obtain ⟨x0, rfl, b0, d0⟩ := aG_int g0
  dsimp only at b0 d0
  obtain ⟨x1, rfl, b1, d1⟩ := fG_ref (by decide) g1
  obtain ⟨m1, m2, m3, m4⟩ := hM
  have f0 : fB K n p 128 [fI x0, fR x1] σ := by
    obtain ⟨w, e6, e7⟩ := m4 (2050, [0, 1]) (List.mem_of_getElem? (i := 0) rfl)
    obtain rfl : [fI x0, fR x1] = w := Option.some.inj (show some [fI x0, fR x1] = some w from e6)
    exact (fF_b (r := 2050) (by decide) rfl).mp e7
  clear m1 m2 m3 m4
  obtain ⟨x, b, e, h⟩ := f0
  cases e
  have q0 : fB K n (p) 127 [fR x1] σ := by
    exact ⟨_, rfl, h.resolve_left (fun h9 => h9 (by omega))⟩
  exact ⟨p, fun _ => rfl, ⟨(fun q h => by cases h), fun q h => (by cases h), (fun f h => by cases h), (aAllc ⟨_, rfl, (fF_b (r := 2033) (by decide) rfl).mpr q0⟩ (fun f h => by cases h))⟩, [], List.mem_cons_self, fun f h => (by cases h)⟩
set_option maxRecDepth 8192 in
theorem rw_ruT0f {K : Nat → Nat} {n : Nat} : aGho (fF K n) fa_T K n (fJX K n) ag_ruT0f := by
  refine aGho_of ⟨rfl, rfl⟩ ?_
  intro p σ ρ hH hX hA hM
  have hG := aAG_of hA.1 (fun i e v he hv => (hA.2 i e v he hv).1)
  clear hA
  obtain ⟨v0, v1, rfl, g0, g1⟩ := fA_2 hG
  clear hG
  obtain ⟨x0, rfl, b0, d0⟩ := aG_int g0
  dsimp only at b0 d0
  obtain ⟨x1, rfl, b1, d1⟩ := fG_ref (by decide) g1
  obtain ⟨m1, m2, m3, m4⟩ := hM
  clear m1 m2 m3 m4
  have q0 : fB K n (p) 125 [fI x0, fR x1] σ := by
    exact ⟨_, _, rfl, Or.inl (by omega)⟩
  exact ⟨p, fun _ => rfl, ⟨(fun q h => by cases h), fun q h => (by cases h), (fun f h => by cases h), (aAllc ⟨_, rfl, (fF_b (r := 2002) (by decide) rfl).mpr q0⟩ (fun f h => by cases h))⟩, [], List.mem_cons_self, fun f h => (by cases h)⟩
set_option maxRecDepth 8192 in
theorem rw_ruT0 {K : Nat → Nat} {n : Nat} : aGho (fF K n) fa_T K n (fJX K n) ag_ruT0 := by
  refine aGho_of ⟨rfl, rfl⟩ ?_
  intro p σ ρ hH hX hA hM
  have hG := aAG_of hA.1 (fun i e v he hv => (hA.2 i e v he hv).1)
  clear hA
  obtain ⟨v0, v1, rfl, g0, g1⟩ := fA_2 hG
  clear hG
  obtain ⟨x0, rfl, b0, d0⟩ := aG_int g0
  dsimp only at b0 d0
  obtain ⟨x1, rfl, b1, d1⟩ := fG_ref (by decide) g1
  obtain ⟨m1, m2, m3, m4⟩ := hM
  have f0 : fB K n p 100 [fR x1] σ := by
    obtain ⟨w, e6, e7⟩ := m4 (1601, [1]) (List.mem_of_getElem? (i := 0) rfl)
    obtain rfl : [fR x1] = w := Option.some.inj (show some [fR x1] = some w from e6)
    exact (fF_b (r := 1601) (by decide) rfl).mp e7
  clear m1 m2 m3 m4
  have q0 : fB K n (p) 125 [fI x0, fR x1] σ := by
    exact ⟨_, _, rfl, Or.inr (fTG_of f0)⟩
  exact ⟨p, fun _ => rfl, ⟨(fun q h => by cases h), fun q h => (by cases h), (fun f h => by cases h), (aAllc ⟨_, rfl, (fF_b (r := 2002) (by decide) rfl).mpr q0⟩ (fun f h => by cases h))⟩, [], List.mem_cons_self, fun f h => (by cases h)⟩
set_option maxRecDepth 8192 in
theorem rw_ruT0z {K : Nat → Nat} {n : Nat} : aGho (fF K n) fa_T K n (fJX K n) ag_ruT0z := by
  refine aGho_of ⟨rfl, rfl⟩ ?_
  intro p σ ρ hH hX hA hM
  have hG := aAG_of hA.1 (fun i e v he hv => (hA.2 i e v he hv).1)
  clear hA
  obtain ⟨v0, v1, rfl, g0, g1⟩ := fA_2 hG
  clear hG
  obtain ⟨x0, rfl, b0, d0⟩ := aG_int g0
  dsimp only at b0 d0
  obtain ⟨x1, rfl, b1, d1⟩ := fG_ref (by decide) g1
  obtain ⟨m1, m2, m3, m4⟩ := hM
  have f0 : fB K n p 125 [fI x0, fR x1] σ := by
    obtain ⟨w, e6, e7⟩ := m4 (2002, [0, 1]) (List.mem_of_getElem? (i := 0) rfl)
    obtain rfl : [fI x0, fR x1] = w := Option.some.inj (show some [fI x0, fR x1] = some w from e6)
    exact (fF_b (r := 2002) (by decide) rfl).mp e7
  clear m1 m2 m3 m4
  obtain ⟨x, a, e, h⟩ := f0
  cases e
  have q0 : fB K n (p) 100 [fR x1] σ := by
    exact fTG_to (h.resolve_left (fun h9 => h9 (by omega)))
  exact ⟨p, fun _ => rfl, ⟨(fun q h => by cases h), fun q h => (by cases h), (fun f h => by cases h), (aAllc ⟨_, rfl, (fF_b (r := 1601) (by decide) rfl).mpr q0⟩ (fun f h => by cases h))⟩, [], List.mem_cons_self, fun f h => (by cases h)⟩
set_option maxRecDepth 8192 in
theorem rw_ruSWn {K : Nat → Nat} {n : Nat} : aGho (fF K n) fa_T K n (fJX K n) ag_ruSWn := by
  refine aGho_of ⟨rfl, rfl⟩ ?_
  intro p σ ρ hH hX hA hM
  have hG := aAG_of hA.1 (fun i e v he hv => (hA.2 i e v he hv).1)
  clear hA
  obtain ⟨v0, v1, v2, rfl, g0, g1, g2⟩ := fA_3 hG
  clear hG
  obtain ⟨x0, rfl, b0, d0⟩ := fG_ref (by decide) g0
  obtain ⟨x1, rfl, b1⟩ := fG_any g1
  obtain ⟨x2, rfl, b2, d2⟩ := fG_ref (by decide) g2
  obtain ⟨m1, m2, m3, m4⟩ := hM
  obtain ⟨a0, c0, fs0, w0, e1, s0, t0, e4⟩ := m1 (0, 10, 1) (List.mem_of_getElem? (i := 0) rfl)
  obtain rfl : x0 = a0 := Sum.inl.inj (Option.some.inj (Sum.inr.inj (Sum.inr.inj (Option.some.inj (show some (fR x0) = some _ from e1)))))
  obtain rfl : fR x1 = w0 := Option.some.inj (show some (fR x1) = some w0 from e4)
  clear e1 e4
  obtain ⟨a1, c1, fs1, w1, e1, s1, t1, e4⟩ := m1 (0, 11, 2) (List.mem_of_getElem? (i := 1) rfl)
  obtain rfl : x0 = a1 := Sum.inl.inj (Option.some.inj (Sum.inr.inj (Sum.inr.inj (Option.some.inj (show some (fR x0) = some _ from e1)))))
  obtain rfl : fR x2 = w1 := Option.some.inj (show some (fR x2) = some w1 from e4)
  clear e1 e4
  clear m1 m2 m3 m4
  have q0 : fB K n (p) 126 [fR x0, fR x1, fR x2] σ := by
    exact ⟨_, _, _, rfl, Or.inl ⟨⟨b0, d0, _, _, s0, t0⟩, ⟨b0, d0, _, _, s1, t1⟩⟩⟩
  exact ⟨p, fun _ => rfl, ⟨(fun q h => by cases h), fun q h => (by cases h), (fun f h => by cases h), (aAllc ⟨_, rfl, (fF_b (r := 2019) (by decide) rfl).mpr q0⟩ (fun f h => by cases h))⟩, [], List.mem_cons_self, fun f h => (by cases h)⟩
set_option maxRecDepth 8192 in
theorem rw_ruSWy {K : Nat → Nat} {n : Nat} : aGho (fF K n) fa_T K n (fJX K n) ag_ruSWy := by
  refine aGho_of ⟨rfl, rfl⟩ ?_
  intro p σ ρ hH hX hA hM
  have hG := aAG_of hA.1 (fun i e v he hv => (hA.2 i e v he hv).1)
  clear hA
  obtain ⟨v0, v1, v2, rfl, g0, g1, g2⟩ := fA_3 hG
  clear hG
  obtain ⟨x0, rfl, b0, d0⟩ := fG_ref (by decide) g0
  obtain ⟨x1, rfl, b1⟩ := fG_any g1
  obtain ⟨x2, rfl, b2, d2⟩ := fG_ref (by decide) g2
  obtain ⟨m1, m2, m3, m4⟩ := hM
  obtain ⟨a0, c0, fs0, w0, e1, s0, t0, e4⟩ := m1 (0, 10, 2) (List.mem_of_getElem? (i := 0) rfl)
  obtain rfl : x0 = a0 := Sum.inl.inj (Option.some.inj (Sum.inr.inj (Sum.inr.inj (Option.some.inj (show some (fR x0) = some _ from e1)))))
  obtain rfl : fR x2 = w0 := Option.some.inj (show some (fR x2) = some w0 from e4)
  clear e1 e4
  obtain ⟨a1, c1, fs1, w1, e1, s1, t1, e4⟩ := m1 (0, 11, 1) (List.mem_of_getElem? (i := 1) rfl)
  obtain rfl : x0 = a1 := Sum.inl.inj (Option.some.inj (Sum.inr.inj (Sum.inr.inj (Option.some.inj (show some (fR x0) = some _ from e1)))))
  obtain rfl : fR x1 = w1 := Option.some.inj (show some (fR x1) = some w1 from e4)
  clear e1 e4
  have f0 : fB K n p 100 [fR x2] σ := by
    obtain ⟨w, e6, e7⟩ := m4 (1601, [2]) (List.mem_of_getElem? (i := 0) rfl)
    obtain rfl : [fR x2] = w := Option.some.inj (show some [fR x2] = some w from e6)
    exact (fF_b (r := 1601) (by decide) rfl).mp e7
  clear m1 m2 m3 m4
  have q0 : fB K n (p) 126 [fR x0, fR x1, fR x2] σ := by
    exact ⟨_, _, _, rfl, Or.inr ⟨⟨b0, d0, _, _, s0, t0⟩, ⟨b0, d0, _, _, s1, t1⟩, fTG_of f0⟩⟩
  exact ⟨p, fun _ => rfl, ⟨(fun q h => by cases h), fun q h => (by cases h), (fun f h => by cases h), (aAllc ⟨_, rfl, (fF_b (r := 2019) (by decide) rfl).mpr q0⟩ (fun f h => by cases h))⟩, [], List.mem_cons_self, fun f h => (by cases h)⟩

