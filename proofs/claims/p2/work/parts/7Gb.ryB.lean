/-! the reference: rules of uI -/
theorem rSh_ra {p : rP} {a b : Nat} {r : List jv} : rSh rS1 p (rR a :: r) = rSh rS1 p (rR b :: r) := by
  show rS1 (rSh rS1 p r) (rR a) = rS1 (rSh rS1 p r) (rR b)
  generalize rSh rS1 p r = q
  obtain ⟨x, o⟩ := q
  cases o <;> rfl
theorem rLn_ra {a b : Nat} {g : Nat → Int32} : ∀ {k i : Nat} {p : rP}, rLn a p g i k → rLn b p g i k
  | 0, _, _, _ => trivial
  | k + 1, i, p, h => by
    obtain ⟨h1, h2, h3⟩ := h
    rw [rSh_ra (b := b)] at h2 h3
    exact ⟨h1, h2, rLn_ra h3⟩
theorem rLn_h {a i k : Nat} {p : rP} {g : Nat → Int32} {x : Int32} (h : rLn a p g i (k + 1)) (e : g i = x) : rLm p.1 x.toInt ∧ rGd (rSh rS1 p [rR a, rI x]).1 := by
  obtain ⟨h1, h2, -⟩ := h
  rw [e] at h1 h2
  exact ⟨h1, h2⟩
theorem rLn_d {a i k : Nat} {p : rP} {g : Nat → Int32} {x : Int32} (h : rLn a p g i (k + 1)) (e : g i = x) : rLn a (rSh rS1 p [rR a, rI x]) g (i + 1) k := by
  obtain ⟨-, -, h3⟩ := h
  rw [e] at h3
  exact h3
theorem rw_riO {N : Int} {K : Nat → Nat} {n : Nat} {JX : (Nat → jcell) → Prop} : aGho (rH N K n) fa_T K n JX ag_riO := by
  refine aGho_of ⟨rfl, rfl⟩ ?_
  intro p σ ρ hH hX hA hM0
  have hG := aAG_of hA.1 (fun i e v he hv => (hA.2 i e v he hv).1)
  clear hA
  obtain ⟨v0, v1, v2, v3, rfl, g0, g1, g2, g3⟩ := rA_4 hG
  clear hG
  obtain ⟨x0, rfl, b0, d0⟩ := rG_ref (by decide) g0
  obtain ⟨x1, rfl, b1, d1⟩ := rG_ref (by decide) g1
  obtain ⟨x2, rfl, b2, d2⟩ := aG_int g2
  dsimp only at b2 d2
  obtain ⟨x3, rfl, b3, d3⟩ := aG_int g3
  dsimp only at b3 d3
  obtain ⟨m1, m2, m3, m4⟩ := hM0
  obtain ⟨M, hM⟩ := rMe_ex hH b0 d0
  obtain ⟨T, hT⟩ := rTe_ex hH b1 d1
  obtain ⟨a0, c0, fs0, w0, e1, s0, t0, e4⟩ := m1 (1, 5, 2) (List.mem_of_getElem? (i := 0) rfl)
  obtain rfl : x1 = a0 := Sum.inl.inj (Option.some.inj (Sum.inr.inj (Sum.inr.inj (Option.some.inj (show some (rR x1) = some _ from e1)))))
  obtain rfl : rI x2 = w0 := Option.some.inj (show some (rI x2) = some w0 from e4)
  clear e1 e4
  obtain ⟨a1, c1, fs1, w1, e1, s1, t1, e4⟩ := m1 (1, 6, 3) (List.mem_of_getElem? (i := 1) rfl)
  obtain rfl : x1 = a1 := Sum.inl.inj (Option.some.inj (Sum.inr.inj (Sum.inr.inj (Option.some.inj (show some (rR x1) = some _ from e1)))))
  obtain rfl : rI x3 = w1 := Option.some.inj (show some (rI x3) = some w1 from e4)
  clear e1 e4
  have f0 : rB3 N K n p 367 [rR x1] σ := by
    obtain ⟨w, e6, e7⟩ := m4 (5873, [1]) (List.mem_of_getElem? (i := 0) rfl)
    obtain rfl : [rR x1] = w := Option.some.inj (show some [rR x1] = some w from e6)
    exact (rF_b (r := 5873) (by decide) rfl).mp e7
  have f0 := ro3_367.mp f0
  have f1 : rB3 N K n p 396 [rR x0, rR x1, rI x2, rI x3] σ := by
    obtain ⟨w, e6, e7⟩ := m4 (6340, [0, 1, 2, 3]) (List.mem_of_getElem? (i := 1) rfl)
    obtain rfl : [rR x0, rR x1, rI x2, rI x3] = w := Option.some.inj (show some [rR x0, rR x1, rI x2, rI x3] = some w from e6)
    exact (rF_b (r := 6340) (by decide) rfl).mp e7
  have f1 := ro3_396.mp f1
  clear m1 m2 m3 m4
  obtain ⟨g9, h9, o1, o2, ⟨C, y, hY, k1, k2⟩, ⟨pa, mo, u9, z, cc, v, p1, p2, p3, p4, p5, ⟨p6, p7, p8⟩, p10, p11, p12⟩⟩ := f0
  cases rOb_u o1 ⟨b1, d1, _, _, s0, t0⟩
  cases rOb_u o2 ⟨b1, d1, _, _, s1, t1⟩
  obtain ⟨pa9, mo9, v9, hs9, hX9⟩ := f1
  obtain ⟨rfl, rfl, rfl⟩ := rSt3_u ⟨p1, p2, z, p3⟩ hs9
  have q0 : rB3 N K n ((rPo3 pa mo u9 x3.toInt, none) : rP) 400 [rR x1] σ := ro3_400.mpr (by
    exact ⟨rfl, p4⟩)
  have q1 : rB3 N K n ((rPo3 pa mo u9 x3.toInt, none) : rP) 220 [rR x1] σ := ro3_220.mpr (by
    exact ⟨v, p10, p11, p12⟩)
  have q2 : rB3 N K n ((rPo3 pa mo u9 x3.toInt, none) : rP) 462 [rR x1, rI x2, rI x3] σ := ro3_462.mpr (by
    exact ⟨rfl, pa, mo, u9, ⟨p1, p2, z, p3⟩, rfl⟩)
  have q3 : rB3 N K n ((rPo3 pa mo u9 x3.toInt, none) : rP) 463 [rR x1] σ := ro3_463.mpr (by
    exact ⟨cc, p6, p7, p8⟩)
  have q4 : rB3 N K n ((rPo3 pa mo u9 x3.toInt, none) : rP) 24 [] σ := ro3_24.mpr (by
    exact p5)
  have q5 : rB3 N K n ((rPo3 pa mo u9 x3.toInt, none) : rP) 241 [rR x1, rI x2, rI x3] σ := ro3_241.mpr (by
    exact ⟨C, y, hY, k1, k2⟩)
  have q6 : rB3 N K n ((rPo3 pa mo u9 x3.toInt, none) : rP) 22 [rR x0] σ := ro3_22.mpr (by
    exact ⟨rfl, hX9⟩)
  exact ⟨((rPo3 pa mo u9 x3.toInt, none) : rP), fun h => (by cases h), ⟨(fun q h => by cases h), fun q h => (by cases h), (fun f h => by cases h), (aAllc ⟨_, rfl, (rF_b (r := 6401) (by decide) rfl).mpr q0⟩ (aAllc ⟨_, rfl, (rF_b (r := 3521) (by decide) rfl).mpr q1⟩ (aAllc ⟨_, rfl, (rF_b (r := 7395) (by decide) rfl).mpr q2⟩ (aAllc ⟨_, rfl, (rF_b (r := 7409) (by decide) rfl).mpr q3⟩ (aAllc ⟨_, rfl, (rF_b (r := 384) (by decide) rfl).mpr q4⟩ (aAllc ⟨_, rfl, (rF_b (r := 3859) (by decide) rfl).mpr q5⟩ (aAllc ⟨_, rfl, (rF_b (r := 353) (by decide) rfl).mpr q6⟩ (fun f h => by cases h))))))))⟩, [], List.mem_cons_self, fun f h => (by cases h)⟩
theorem rw_riG6 {N : Int} {K : Nat → Nat} {n : Nat} {JX : (Nat → jcell) → Prop} : aGho (rH N K n) fa_T K n JX ag_riG6 := by
  refine aGho_of ⟨rfl, rfl⟩ ?_
  intro p σ ρ hH hX hA hM0
  have hG := aAG_of hA.1 (fun i e v he hv => (hA.2 i e v he hv).1)
  clear hA
  obtain ⟨v0, v1, rfl, g0, g1⟩ := rA_2 hG
  clear hG
  obtain ⟨x0, rfl, b0, d0⟩ := rG_ref (by decide) g0
  obtain ⟨x1, rfl, b1, d1⟩ := aG_int g1
  dsimp only at b1 d1
  obtain ⟨m1, m2, m3, m4⟩ := hM0
  obtain ⟨M, hM⟩ := rMe_ex hH b0 d0
  have f0 : rB3 N K n p 171 [rR x0, rI x1] σ := by
    obtain ⟨w, e6, e7⟩ := m4 (2738, [0, 1]) (List.mem_of_getElem? (i := 0) rfl)
    obtain rfl : [rR x0, rI x1] = w := Option.some.inj (show some [rR x0, rI x1] = some w from e6)
    exact (rF_b (r := 2738) (by decide) rfl).mp e7
  have f0 := ro3_171.mp f0
  clear m1 m2 m3 m4
  have q0 : rB3 N K n p 170 [rR x0, rI x1] σ := ro3_170.mpr (by
    obtain ⟨gM, gS, gP, r1, r2, r3, kk⟩ := f0
    exact ⟨gM, gS, gP, r1, r2, r3, fun t t0 t1 => kk t t0 (by omega)⟩)
  exact ⟨p, fun _ => rfl, ⟨(fun q h => by cases h), fun q h => (by cases h), (fun f h => by cases h), (aAllc ⟨_, rfl, (rF_b (r := 2722) (by decide) rfl).mpr q0⟩ (fun f h => by cases h))⟩, [], List.mem_cons_self, fun f h => (by cases h)⟩
theorem rw_riL0 {N : Int} {K : Nat → Nat} {n : Nat} {JX : (Nat → jcell) → Prop} : aGho (rH N K n) fa_T K n JX ag_riL0 := by
  refine aGho_of ⟨rfl, rfl⟩ ?_
  intro p σ ρ hH hX hA hM0
  have hG := aAG_of hA.1 (fun i e v he hv => (hA.2 i e v he hv).1)
  clear hA
  obtain ⟨v0, v1, v2, v3, v4, rfl, g0, g1, g2, g3, g4⟩ := rA_5 hG
  clear hG
  obtain ⟨x0, rfl, b0, d0⟩ := rG_ref (by decide) g0
  obtain ⟨x1, rfl, b1, d1⟩ := rG_ref (by decide) g1
  obtain ⟨x2, rfl, b2, d2⟩ := aG_int g2
  dsimp only at b2 d2
  obtain ⟨x3, rfl, b3, d3⟩ := aG_int g3
  dsimp only at b3 d3
  obtain ⟨x4, rfl, b4, d4⟩ := aG_int g4
  dsimp only at b4 d4
  obtain ⟨m1, m2, m3, m4⟩ := hM0
  obtain ⟨M, hM⟩ := rMe_ex hH b0 d0
  obtain ⟨a, mc0, ty0, gc0, ic0, e1, sc0, jc0, e4, e5⟩ := m2 (1, ([], 0), 4) (List.mem_of_getElem? (i := 0) rfl)
  obtain rfl : x1 = a := Sum.inl.inj (Option.some.inj (Sum.inr.inj (Sum.inr.inj (Option.some.inj (show some (rR x1) = some _ from e1)))))
  obtain ⟨gc0, rfl⟩ : ∃ g, gc0 = .inl g := by
    rcases gc0 with g | g
    · exact ⟨g, rfl⟩
    · exact absurd (show some (rI x4) = some (.inr (.inl (g ic0))) from e5) (fun h => by cases h)
  have sc0 : σ x1 = .inl (ty0, mc0, .inl gc0) := sc0
  have ec0 : x4 = gc0 ic0 := Sum.inl.inj (Option.some.inj (show some (rI x4) = some _ from e5))
  have kc0 : (ic0 : Int) = 0 + 0 := by
    obtain ⟨z, e6, e7⟩ := e4
    obtain rfl : 0 = z := Option.some.inj (show some 0 = some z from e6)
    exact e7
  clear e1 e4 e5
  have l0 : 0 ≤ (1 * x2.toInt + 0) + -1 := by
    obtain ⟨z, e6, e7⟩ := m3 ([(2, 1)], -1) (List.mem_of_getElem? (i := 0) rfl)
    obtain rfl : (1 * x2.toInt + 0) = z := Option.some.inj (show some (1 * x2.toInt + 0) = some z from e6)
    exact e7
  have f0 : rB3 N K n p 96 [rR x1, rI x2] σ := by
    obtain ⟨w, e6, e7⟩ := m4 (1538, [1, 2]) (List.mem_of_getElem? (i := 0) rfl)
    obtain rfl : [rR x1, rI x2] = w := Option.some.inj (show some [rR x1, rI x2] = some w from e6)
    exact (rF_b (r := 1538) (by decide) rfl).mp e7
  have f0 := ro3_96.mp f0
  clear m1 m2 m3 m4
  obtain ⟨g, a, hr, hn⟩ := f0
  obtain ⟨g9, h9⟩ := rRw_of hH b1 d1 rfl
  obtain rfl : g = g9 := by
    rcases hr with hr | hr
    · exact rRw_u hr h9
    · have := hr.2.1; omega
  have e0 : g 0 = x4 := by
    have e := rRw_c (i := ic0) h9 sc0 ec0
    rw [show ic0 = 0 by omega] at e
    exact e
  have hn := rLn_ra (b := x0) hn
  rw [show x2.toInt.toNat = (x2.toInt.toNat - 1) + 1 by omega] at hn
  have hh := rLn_h hn e0
  have q0 : rB3 N K n p 25 [rI x4] σ := ro3_25.mpr (by
    exact hh.1)
  have q1 : rB3 N K n (rSh rS1 p [rR x0, rI x4]) 24 [] σ := ro3_24.mpr (by
    exact hh.2)
  have q2 : rB3 N K n p 184 [rR x1, rI x4] σ := ro3_184.mpr (by
    exact ⟨g, h9, by rw [e0]⟩)
  exact ⟨p, fun _ => rfl, ⟨(fun q h => by cases h), fun q h => (by cases h), (fun f h => by cases h), (aAllc ⟨_, rfl, (rF_b (r := 401) (by decide) rfl).mpr q0⟩ (aAllc ⟨_, rfl, (rF_g (r := 384) (by decide)).mpr q1⟩ (aAllc ⟨_, rfl, (rF_b (r := 2946) (by decide) rfl).mpr q2⟩ (fun f h => by cases h))))⟩, [], List.mem_cons_self, fun f h => (by cases h)⟩
theorem rw_riL1 {N : Int} {K : Nat → Nat} {n : Nat} {JX : (Nat → jcell) → Prop} : aGho (rH N K n) fa_T K n JX ag_riL1 := by
  refine aGho_of ⟨rfl, rfl⟩ ?_
  intro p σ ρ hH hX hA hM0
  have hG := aAG_of hA.1 (fun i e v he hv => (hA.2 i e v he hv).1)
  clear hA
  obtain ⟨v0, v1, v2, v3, v4, v5, rfl, g0, g1, g2, g3, g4, g5⟩ := rA_6 hG
  clear hG
  obtain ⟨x0, rfl, b0, d0⟩ := rG_ref (by decide) g0
  obtain ⟨x1, rfl, b1, d1⟩ := rG_ref (by decide) g1
  obtain ⟨x2, rfl, b2, d2⟩ := aG_int g2
  dsimp only at b2 d2
  obtain ⟨x3, rfl, b3, d3⟩ := aG_int g3
  dsimp only at b3 d3
  obtain ⟨x4, rfl, b4, d4⟩ := aG_int g4
  dsimp only at b4 d4
  obtain ⟨x5, rfl, b5, d5⟩ := aG_int g5
  dsimp only at b5 d5
  obtain ⟨m1, m2, m3, m4⟩ := hM0
  obtain ⟨M, hM⟩ := rMe_ex hH b0 d0
  obtain ⟨a, mc0, ty0, gc0, ic0, e1, sc0, jc0, e4, e5⟩ := m2 (1, ([], 1), 5) (List.mem_of_getElem? (i := 0) rfl)
  obtain rfl : x1 = a := Sum.inl.inj (Option.some.inj (Sum.inr.inj (Sum.inr.inj (Option.some.inj (show some (rR x1) = some _ from e1)))))
  obtain ⟨gc0, rfl⟩ : ∃ g, gc0 = .inl g := by
    rcases gc0 with g | g
    · exact ⟨g, rfl⟩
    · exact absurd (show some (rI x5) = some (.inr (.inl (g ic0))) from e5) (fun h => by cases h)
  have sc0 : σ x1 = .inl (ty0, mc0, .inl gc0) := sc0
  have ec0 : x5 = gc0 ic0 := Sum.inl.inj (Option.some.inj (show some (rI x5) = some _ from e5))
  have kc0 : (ic0 : Int) = 0 + 1 := by
    obtain ⟨z, e6, e7⟩ := e4
    obtain rfl : 0 = z := Option.some.inj (show some 0 = some z from e6)
    exact e7
  clear e1 e4 e5
  have l0 : 0 ≤ (1 * x2.toInt + 0) + -2 := by
    obtain ⟨z, e6, e7⟩ := m3 ([(2, 1)], -2) (List.mem_of_getElem? (i := 0) rfl)
    obtain rfl : (1 * x2.toInt + 0) = z := Option.some.inj (show some (1 * x2.toInt + 0) = some z from e6)
    exact e7
  have f0 : rB3 N K n p 96 [rR x1, rI x2] σ := by
    obtain ⟨w, e6, e7⟩ := m4 (1538, [1, 2]) (List.mem_of_getElem? (i := 0) rfl)
    obtain rfl : [rR x1, rI x2] = w := Option.some.inj (show some [rR x1, rI x2] = some w from e6)
    exact (rF_b (r := 1538) (by decide) rfl).mp e7
  have f0 := ro3_96.mp f0
  have f1 : rB3 N K n p 184 [rR x1, rI x4] σ := by
    obtain ⟨w, e6, e7⟩ := m4 (2946, [1, 4]) (List.mem_of_getElem? (i := 1) rfl)
    obtain rfl : [rR x1, rI x4] = w := Option.some.inj (show some [rR x1, rI x4] = some w from e6)
    exact (rF_b (r := 2946) (by decide) rfl).mp e7
  have f1 := ro3_184.mp f1
  clear m1 m2 m3 m4
  obtain ⟨g, a, hr, hn⟩ := f0
  obtain ⟨g9, h9⟩ := rRw_of hH b1 d1 rfl
  obtain rfl : g = g9 := by
    rcases hr with hr | hr
    · exact rRw_u hr h9
    · have := hr.2.1; omega
  have e1 : g 1 = x5 := by
    have e := rRw_c (i := ic0) h9 sc0 ec0
    rw [show ic0 = 1 by omega] at e
    exact e
  obtain ⟨u0, w0, k0⟩ := f1
  obtain rfl := rRw_u h9 w0
  have e0 : g 0 = x4 := Int32.toInt_inj.mp k0
  have hn := rLn_ra (b := x0) hn
  rw [show x2.toInt.toNat = (x2.toInt.toNat - 2) + 2 by omega] at hn
  have hh := rLn_h (rLn_d hn e0) e1
  have q0 : rB3 N K n (rSh rS1 p [rR x0, rI x4]) 25 [rI x5] σ := ro3_25.mpr (by
    exact hh.1)
  have q1 : rB3 N K n (rSh rS1 p [rR x0, rI x5, rR x0, rI x4]) 24 [] σ := ro3_24.mpr (by
    exact hh.2)
  have q2 : rB3 N K n p 185 [rR x1, rI x5] σ := ro3_185.mpr (by
    exact ⟨g, h9, by rw [e1]⟩)
  exact ⟨p, fun _ => rfl, ⟨(fun q h => by cases h), fun q h => (by cases h), (fun f h => by cases h), (aAllc ⟨_, rfl, (rF_g (r := 401) (by decide)).mpr q0⟩ (aAllc ⟨_, rfl, (rF_g (r := 384) (by decide)).mpr q1⟩ (aAllc ⟨_, rfl, (rF_b (r := 2962) (by decide) rfl).mpr q2⟩ (fun f h => by cases h))))⟩, [], List.mem_cons_self, fun f h => (by cases h)⟩
theorem rw_riL2 {N : Int} {K : Nat → Nat} {n : Nat} {JX : (Nat → jcell) → Prop} : aGho (rH N K n) fa_T K n JX ag_riL2 := by
  refine aGho_of ⟨rfl, rfl⟩ ?_
  intro p σ ρ hH hX hA hM0
  have hG := aAG_of hA.1 (fun i e v he hv => (hA.2 i e v he hv).1)
  clear hA
  obtain ⟨v0, v1, v2, v3, v4, v5, v6, rfl, g0, g1, g2, g3, g4, g5, g6⟩ := rA_7 hG
  clear hG
  obtain ⟨x0, rfl, b0, d0⟩ := rG_ref (by decide) g0
  obtain ⟨x1, rfl, b1, d1⟩ := rG_ref (by decide) g1
  obtain ⟨x2, rfl, b2, d2⟩ := aG_int g2
  dsimp only at b2 d2
  obtain ⟨x3, rfl, b3, d3⟩ := aG_int g3
  dsimp only at b3 d3
  obtain ⟨x4, rfl, b4, d4⟩ := aG_int g4
  dsimp only at b4 d4
  obtain ⟨x5, rfl, b5, d5⟩ := aG_int g5
  dsimp only at b5 d5
  obtain ⟨x6, rfl, b6, d6⟩ := aG_int g6
  dsimp only at b6 d6
  obtain ⟨m1, m2, m3, m4⟩ := hM0
  obtain ⟨M, hM⟩ := rMe_ex hH b0 d0
  obtain ⟨a, mc0, ty0, gc0, ic0, e1, sc0, jc0, e4, e5⟩ := m2 (1, ([], 2), 6) (List.mem_of_getElem? (i := 0) rfl)
  obtain rfl : x1 = a := Sum.inl.inj (Option.some.inj (Sum.inr.inj (Sum.inr.inj (Option.some.inj (show some (rR x1) = some _ from e1)))))
  obtain ⟨gc0, rfl⟩ : ∃ g, gc0 = .inl g := by
    rcases gc0 with g | g
    · exact ⟨g, rfl⟩
    · exact absurd (show some (rI x6) = some (.inr (.inl (g ic0))) from e5) (fun h => by cases h)
  have sc0 : σ x1 = .inl (ty0, mc0, .inl gc0) := sc0
  have ec0 : x6 = gc0 ic0 := Sum.inl.inj (Option.some.inj (show some (rI x6) = some _ from e5))
  have kc0 : (ic0 : Int) = 0 + 2 := by
    obtain ⟨z, e6, e7⟩ := e4
    obtain rfl : 0 = z := Option.some.inj (show some 0 = some z from e6)
    exact e7
  clear e1 e4 e5
  have l0 : 0 ≤ (1 * x2.toInt + 0) + -3 := by
    obtain ⟨z, e6, e7⟩ := m3 ([(2, 1)], -3) (List.mem_of_getElem? (i := 0) rfl)
    obtain rfl : (1 * x2.toInt + 0) = z := Option.some.inj (show some (1 * x2.toInt + 0) = some z from e6)
    exact e7
  have f0 : rB3 N K n p 96 [rR x1, rI x2] σ := by
    obtain ⟨w, e6, e7⟩ := m4 (1538, [1, 2]) (List.mem_of_getElem? (i := 0) rfl)
    obtain rfl : [rR x1, rI x2] = w := Option.some.inj (show some [rR x1, rI x2] = some w from e6)
    exact (rF_b (r := 1538) (by decide) rfl).mp e7
  have f0 := ro3_96.mp f0
  have f1 : rB3 N K n p 184 [rR x1, rI x4] σ := by
    obtain ⟨w, e6, e7⟩ := m4 (2946, [1, 4]) (List.mem_of_getElem? (i := 1) rfl)
    obtain rfl : [rR x1, rI x4] = w := Option.some.inj (show some [rR x1, rI x4] = some w from e6)
    exact (rF_b (r := 2946) (by decide) rfl).mp e7
  have f1 := ro3_184.mp f1
  have f2 : rB3 N K n p 185 [rR x1, rI x5] σ := by
    obtain ⟨w, e6, e7⟩ := m4 (2962, [1, 5]) (List.mem_of_getElem? (i := 2) rfl)
    obtain rfl : [rR x1, rI x5] = w := Option.some.inj (show some [rR x1, rI x5] = some w from e6)
    exact (rF_b (r := 2962) (by decide) rfl).mp e7
  have f2 := ro3_185.mp f2
  clear m1 m2 m3 m4
  obtain ⟨g, a, hr, hn⟩ := f0
  obtain ⟨g9, h9⟩ := rRw_of hH b1 d1 rfl
  obtain rfl : g = g9 := by
    rcases hr with hr | hr
    · exact rRw_u hr h9
    · have := hr.2.1; omega
  have e2 : g 2 = x6 := by
    have e := rRw_c (i := ic0) h9 sc0 ec0
    rw [show ic0 = 2 by omega] at e
    exact e
  obtain ⟨u0, w0, k0⟩ := f1
  obtain rfl := rRw_u h9 w0
  have e0 : g 0 = x4 := Int32.toInt_inj.mp k0
  obtain ⟨u1, w1, k1⟩ := f2
  obtain rfl := rRw_u h9 w1
  have e1 : g 1 = x5 := Int32.toInt_inj.mp k1
  have hn := rLn_ra (b := x0) hn
  rw [show x2.toInt.toNat = (x2.toInt.toNat - 3) + 3 by omega] at hn
  have hh := rLn_h (rLn_d (rLn_d hn e0) e1) e2
  have q0 : rB3 N K n (rSh rS1 p [rR x0, rI x5, rR x0, rI x4]) 25 [rI x6] σ := ro3_25.mpr (by
    exact hh.1)
  have q1 : rB3 N K n (rSh rS1 p [rR x0, rI x6, rR x0, rI x5, rR x0, rI x4]) 24 [] σ := ro3_24.mpr (by
    exact hh.2)
  have q2 : rB3 N K n p 186 [rR x1, rI x6] σ := ro3_186.mpr (by
    exact ⟨g, h9, by rw [e2]⟩)
  exact ⟨p, fun _ => rfl, ⟨(fun q h => by cases h), fun q h => (by cases h), (fun f h => by cases h), (aAllc ⟨_, rfl, (rF_g (r := 401) (by decide)).mpr q0⟩ (aAllc ⟨_, rfl, (rF_g (r := 384) (by decide)).mpr q1⟩ (aAllc ⟨_, rfl, (rF_b (r := 2978) (by decide) rfl).mpr q2⟩ (fun f h => by cases h))))⟩, [], List.mem_cons_self, fun f h => (by cases h)⟩
theorem rw_riL3 {N : Int} {K : Nat → Nat} {n : Nat} {JX : (Nat → jcell) → Prop} : aGho (rH N K n) fa_T K n JX ag_riL3 := by
  refine aGho_of ⟨rfl, rfl⟩ ?_
  intro p σ ρ hH hX hA hM0
  have hG := aAG_of hA.1 (fun i e v he hv => (hA.2 i e v he hv).1)
  clear hA
  obtain ⟨v0, v1, v2, v3, v4, v5, v6, v7, rfl, g0, g1, g2, g3, g4, g5, g6, g7⟩ := rA_8 hG
  clear hG
  obtain ⟨x0, rfl, b0, d0⟩ := rG_ref (by decide) g0
  obtain ⟨x1, rfl, b1, d1⟩ := rG_ref (by decide) g1
  obtain ⟨x2, rfl, b2, d2⟩ := aG_int g2
  dsimp only at b2 d2
  obtain ⟨x3, rfl, b3, d3⟩ := aG_int g3
  dsimp only at b3 d3
  obtain ⟨x4, rfl, b4, d4⟩ := aG_int g4
  dsimp only at b4 d4
  obtain ⟨x5, rfl, b5, d5⟩ := aG_int g5
  dsimp only at b5 d5
  obtain ⟨x6, rfl, b6, d6⟩ := aG_int g6
  dsimp only at b6 d6
  obtain ⟨x7, rfl, b7, d7⟩ := aG_int g7
  dsimp only at b7 d7
  obtain ⟨m1, m2, m3, m4⟩ := hM0
  obtain ⟨M, hM⟩ := rMe_ex hH b0 d0
  obtain ⟨a, mc0, ty0, gc0, ic0, e1, sc0, jc0, e4, e5⟩ := m2 (1, ([], 3), 7) (List.mem_of_getElem? (i := 0) rfl)
  obtain rfl : x1 = a := Sum.inl.inj (Option.some.inj (Sum.inr.inj (Sum.inr.inj (Option.some.inj (show some (rR x1) = some _ from e1)))))
  obtain ⟨gc0, rfl⟩ : ∃ g, gc0 = .inl g := by
    rcases gc0 with g | g
    · exact ⟨g, rfl⟩
    · exact absurd (show some (rI x7) = some (.inr (.inl (g ic0))) from e5) (fun h => by cases h)
  have sc0 : σ x1 = .inl (ty0, mc0, .inl gc0) := sc0
  have ec0 : x7 = gc0 ic0 := Sum.inl.inj (Option.some.inj (show some (rI x7) = some _ from e5))
  have kc0 : (ic0 : Int) = 0 + 3 := by
    obtain ⟨z, e6, e7⟩ := e4
    obtain rfl : 0 = z := Option.some.inj (show some 0 = some z from e6)
    exact e7
  clear e1 e4 e5
  have l0 : 0 ≤ (1 * x2.toInt + 0) + -4 := by
    obtain ⟨z, e6, e7⟩ := m3 ([(2, 1)], -4) (List.mem_of_getElem? (i := 0) rfl)
    obtain rfl : (1 * x2.toInt + 0) = z := Option.some.inj (show some (1 * x2.toInt + 0) = some z from e6)
    exact e7
  have f0 : rB3 N K n p 96 [rR x1, rI x2] σ := by
    obtain ⟨w, e6, e7⟩ := m4 (1538, [1, 2]) (List.mem_of_getElem? (i := 0) rfl)
    obtain rfl : [rR x1, rI x2] = w := Option.some.inj (show some [rR x1, rI x2] = some w from e6)
    exact (rF_b (r := 1538) (by decide) rfl).mp e7
  have f0 := ro3_96.mp f0
  have f1 : rB3 N K n p 184 [rR x1, rI x4] σ := by
    obtain ⟨w, e6, e7⟩ := m4 (2946, [1, 4]) (List.mem_of_getElem? (i := 1) rfl)
    obtain rfl : [rR x1, rI x4] = w := Option.some.inj (show some [rR x1, rI x4] = some w from e6)
    exact (rF_b (r := 2946) (by decide) rfl).mp e7
  have f1 := ro3_184.mp f1
  have f2 : rB3 N K n p 185 [rR x1, rI x5] σ := by
    obtain ⟨w, e6, e7⟩ := m4 (2962, [1, 5]) (List.mem_of_getElem? (i := 2) rfl)
    obtain rfl : [rR x1, rI x5] = w := Option.some.inj (show some [rR x1, rI x5] = some w from e6)
    exact (rF_b (r := 2962) (by decide) rfl).mp e7
  have f2 := ro3_185.mp f2
  have f3 : rB3 N K n p 186 [rR x1, rI x6] σ := by
    obtain ⟨w, e6, e7⟩ := m4 (2978, [1, 6]) (List.mem_of_getElem? (i := 3) rfl)
    obtain rfl : [rR x1, rI x6] = w := Option.some.inj (show some [rR x1, rI x6] = some w from e6)
    exact (rF_b (r := 2978) (by decide) rfl).mp e7
  have f3 := ro3_186.mp f3
  clear m1 m2 m3 m4
  obtain ⟨g, a, hr, hn⟩ := f0
  obtain ⟨g9, h9⟩ := rRw_of hH b1 d1 rfl
  obtain rfl : g = g9 := by
    rcases hr with hr | hr
    · exact rRw_u hr h9
    · have := hr.2.1; omega
  have e3 : g 3 = x7 := by
    have e := rRw_c (i := ic0) h9 sc0 ec0
    rw [show ic0 = 3 by omega] at e
    exact e
  obtain ⟨u0, w0, k0⟩ := f1
  obtain rfl := rRw_u h9 w0
  have e0 : g 0 = x4 := Int32.toInt_inj.mp k0
  obtain ⟨u1, w1, k1⟩ := f2
  obtain rfl := rRw_u h9 w1
  have e1 : g 1 = x5 := Int32.toInt_inj.mp k1
  obtain ⟨u2, w2, k2⟩ := f3
  obtain rfl := rRw_u h9 w2
  have e2 : g 2 = x6 := Int32.toInt_inj.mp k2
  have hn := rLn_ra (b := x0) hn
  rw [show x2.toInt.toNat = (x2.toInt.toNat - 4) + 4 by omega] at hn
  have hh := rLn_h (rLn_d (rLn_d (rLn_d hn e0) e1) e2) e3
  have q0 : rB3 N K n (rSh rS1 p [rR x0, rI x6, rR x0, rI x5, rR x0, rI x4]) 25 [rI x7] σ := ro3_25.mpr (by
    exact hh.1)
  have q1 : rB3 N K n (rSh rS1 p [rR x0, rI x7, rR x0, rI x6, rR x0, rI x5, rR x0, rI x4]) 24 [] σ := ro3_24.mpr (by
    exact hh.2)
  have q2 : rB3 N K n p 187 [rR x1, rI x7] σ := ro3_187.mpr (by
    exact ⟨g, h9, by rw [e3]⟩)
  exact ⟨p, fun _ => rfl, ⟨(fun q h => by cases h), fun q h => (by cases h), (fun f h => by cases h), (aAllc ⟨_, rfl, (rF_g (r := 401) (by decide)).mpr q0⟩ (aAllc ⟨_, rfl, (rF_g (r := 384) (by decide)).mpr q1⟩ (aAllc ⟨_, rfl, (rF_b (r := 2994) (by decide) rfl).mpr q2⟩ (fun f h => by cases h))))⟩, [], List.mem_cons_self, fun f h => (by cases h)⟩
theorem rw_riRC0 {N : Int} {K : Nat → Nat} {n : Nat} {JX : (Nat → jcell) → Prop} : aGho (rH N K n) fa_T K n JX ag_riRC0 := by
  refine aGho_of ⟨rfl, rfl⟩ ?_
  intro p σ ρ hH hX hA hM0
  have hG := aAG_of hA.1 (fun i e v he hv => (hA.2 i e v he hv).1)
  clear hA
  obtain ⟨v0, v1, v2, v3, rfl, g0, g1, g2, g3⟩ := rA_4 hG
  clear hG
  obtain ⟨x0, rfl, b0, d0⟩ := rG_ref (by decide) g0
  obtain ⟨x1, rfl, b1, d1⟩ := aG_int g1
  dsimp only at b1 d1
  obtain ⟨x2, rfl, b2, d2⟩ := aG_int g2
  dsimp only at b2 d2
  obtain ⟨x3, rfl, b3, d3⟩ := aG_int g3
  dsimp only at b3 d3
  obtain ⟨m1, m2, m3, m4⟩ := hM0
  obtain ⟨a, mc0, ty0, gc0, ic0, e1, sc0, jc0, e4, e5⟩ := m2 (0, ([(1, 1)], 0), 2) (List.mem_of_getElem? (i := 0) rfl)
  obtain rfl : x0 = a := Sum.inl.inj (Option.some.inj (Sum.inr.inj (Sum.inr.inj (Option.some.inj (show some (rR x0) = some _ from e1)))))
  obtain ⟨gc0, rfl⟩ : ∃ g, gc0 = .inl g := by
    rcases gc0 with g | g
    · exact ⟨g, rfl⟩
    · exact absurd (show some (rI x2) = some (.inr (.inl (g ic0))) from e5) (fun h => by cases h)
  have sc0 : σ x0 = .inl (ty0, mc0, .inl gc0) := sc0
  have ec0 : x2 = gc0 ic0 := Sum.inl.inj (Option.some.inj (show some (rI x2) = some _ from e5))
  have kc0 : (ic0 : Int) = (1 * x1.toInt + 0) + 0 := by
    obtain ⟨z, e6, e7⟩ := e4
    obtain rfl : (1 * x1.toInt + 0) = z := Option.some.inj (show some (1 * x1.toInt + 0) = some z from e6)
    exact e7
  clear e1 e4 e5
  have f0 : rB3 N K n p 184 [rR x0, rI x3] σ := by
    obtain ⟨w, e6, e7⟩ := m4 (2946, [0, 3]) (List.mem_of_getElem? (i := 0) rfl)
    obtain rfl : [rR x0, rI x3] = w := Option.some.inj (show some [rR x0, rI x3] = some w from e6)
    exact (rF_b (r := 2946) (by decide) rfl).mp e7
  have f0 := ro3_184.mp f0
  clear m1 m2 m3 m4
  have r0 : 0 ≤ (1 * x2.toInt + (-1 * x3.toInt + 0)) + 0 := by
    obtain ⟨g, h, e0⟩ := f0
    have e := rRw_c (i := ic0) h sc0 ec0
    rw [show ic0 = 0 by omega] at e
    rw [e] at e0
    omega
  have r1 : 0 ≤ (-1 * x2.toInt + (1 * x3.toInt + 0)) + 0 := by
    obtain ⟨g, h, e0⟩ := f0
    have e := rRw_c (i := ic0) h sc0 ec0
    rw [show ic0 = 0 by omega] at e
    rw [e] at e0
    omega
  exact ⟨p, fun _ => rfl, ⟨(fun q h => by cases h), fun q h => (by cases h), (aAllc ⟨_, rfl, r0⟩ (aAllc ⟨_, rfl, r1⟩ (fun f h => by cases h))), (fun f h => by cases h)⟩, [], List.mem_cons_self, fun f h => (by cases h)⟩
theorem rw_riRC1 {N : Int} {K : Nat → Nat} {n : Nat} {JX : (Nat → jcell) → Prop} : aGho (rH N K n) fa_T K n JX ag_riRC1 := by
  refine aGho_of ⟨rfl, rfl⟩ ?_
  intro p σ ρ hH hX hA hM0
  have hG := aAG_of hA.1 (fun i e v he hv => (hA.2 i e v he hv).1)
  clear hA
  obtain ⟨v0, v1, v2, v3, rfl, g0, g1, g2, g3⟩ := rA_4 hG
  clear hG
  obtain ⟨x0, rfl, b0, d0⟩ := rG_ref (by decide) g0
  obtain ⟨x1, rfl, b1, d1⟩ := aG_int g1
  dsimp only at b1 d1
  obtain ⟨x2, rfl, b2, d2⟩ := aG_int g2
  dsimp only at b2 d2
  obtain ⟨x3, rfl, b3, d3⟩ := aG_int g3
  dsimp only at b3 d3
  obtain ⟨m1, m2, m3, m4⟩ := hM0
  obtain ⟨a, mc0, ty0, gc0, ic0, e1, sc0, jc0, e4, e5⟩ := m2 (0, ([(1, 1)], 0), 2) (List.mem_of_getElem? (i := 0) rfl)
  obtain rfl : x0 = a := Sum.inl.inj (Option.some.inj (Sum.inr.inj (Sum.inr.inj (Option.some.inj (show some (rR x0) = some _ from e1)))))
  obtain ⟨gc0, rfl⟩ : ∃ g, gc0 = .inl g := by
    rcases gc0 with g | g
    · exact ⟨g, rfl⟩
    · exact absurd (show some (rI x2) = some (.inr (.inl (g ic0))) from e5) (fun h => by cases h)
  have sc0 : σ x0 = .inl (ty0, mc0, .inl gc0) := sc0
  have ec0 : x2 = gc0 ic0 := Sum.inl.inj (Option.some.inj (show some (rI x2) = some _ from e5))
  have kc0 : (ic0 : Int) = (1 * x1.toInt + 0) + 0 := by
    obtain ⟨z, e6, e7⟩ := e4
    obtain rfl : (1 * x1.toInt + 0) = z := Option.some.inj (show some (1 * x1.toInt + 0) = some z from e6)
    exact e7
  clear e1 e4 e5
  have f0 : rB3 N K n p 185 [rR x0, rI x3] σ := by
    obtain ⟨w, e6, e7⟩ := m4 (2962, [0, 3]) (List.mem_of_getElem? (i := 0) rfl)
    obtain rfl : [rR x0, rI x3] = w := Option.some.inj (show some [rR x0, rI x3] = some w from e6)
    exact (rF_b (r := 2962) (by decide) rfl).mp e7
  have f0 := ro3_185.mp f0
  clear m1 m2 m3 m4
  have r0 : 0 ≤ (1 * x2.toInt + (-1 * x3.toInt + 0)) + 0 := by
    obtain ⟨g, h, e0⟩ := f0
    have e := rRw_c (i := ic0) h sc0 ec0
    rw [show ic0 = 1 by omega] at e
    rw [e] at e0
    omega
  have r1 : 0 ≤ (-1 * x2.toInt + (1 * x3.toInt + 0)) + 0 := by
    obtain ⟨g, h, e0⟩ := f0
    have e := rRw_c (i := ic0) h sc0 ec0
    rw [show ic0 = 1 by omega] at e
    rw [e] at e0
    omega
  exact ⟨p, fun _ => rfl, ⟨(fun q h => by cases h), fun q h => (by cases h), (aAllc ⟨_, rfl, r0⟩ (aAllc ⟨_, rfl, r1⟩ (fun f h => by cases h))), (fun f h => by cases h)⟩, [], List.mem_cons_self, fun f h => (by cases h)⟩
theorem rw_riRC2 {N : Int} {K : Nat → Nat} {n : Nat} {JX : (Nat → jcell) → Prop} : aGho (rH N K n) fa_T K n JX ag_riRC2 := by
  refine aGho_of ⟨rfl, rfl⟩ ?_
  intro p σ ρ hH hX hA hM0
  have hG := aAG_of hA.1 (fun i e v he hv => (hA.2 i e v he hv).1)
  clear hA
  obtain ⟨v0, v1, v2, v3, rfl, g0, g1, g2, g3⟩ := rA_4 hG
  clear hG
  obtain ⟨x0, rfl, b0, d0⟩ := rG_ref (by decide) g0
  obtain ⟨x1, rfl, b1, d1⟩ := aG_int g1
  dsimp only at b1 d1
  obtain ⟨x2, rfl, b2, d2⟩ := aG_int g2
  dsimp only at b2 d2
  obtain ⟨x3, rfl, b3, d3⟩ := aG_int g3
  dsimp only at b3 d3
  obtain ⟨m1, m2, m3, m4⟩ := hM0
  obtain ⟨a, mc0, ty0, gc0, ic0, e1, sc0, jc0, e4, e5⟩ := m2 (0, ([(1, 1)], 0), 2) (List.mem_of_getElem? (i := 0) rfl)
  obtain rfl : x0 = a := Sum.inl.inj (Option.some.inj (Sum.inr.inj (Sum.inr.inj (Option.some.inj (show some (rR x0) = some _ from e1)))))
  obtain ⟨gc0, rfl⟩ : ∃ g, gc0 = .inl g := by
    rcases gc0 with g | g
    · exact ⟨g, rfl⟩
    · exact absurd (show some (rI x2) = some (.inr (.inl (g ic0))) from e5) (fun h => by cases h)
  have sc0 : σ x0 = .inl (ty0, mc0, .inl gc0) := sc0
  have ec0 : x2 = gc0 ic0 := Sum.inl.inj (Option.some.inj (show some (rI x2) = some _ from e5))
  have kc0 : (ic0 : Int) = (1 * x1.toInt + 0) + 0 := by
    obtain ⟨z, e6, e7⟩ := e4
    obtain rfl : (1 * x1.toInt + 0) = z := Option.some.inj (show some (1 * x1.toInt + 0) = some z from e6)
    exact e7
  clear e1 e4 e5
  have f0 : rB3 N K n p 186 [rR x0, rI x3] σ := by
    obtain ⟨w, e6, e7⟩ := m4 (2978, [0, 3]) (List.mem_of_getElem? (i := 0) rfl)
    obtain rfl : [rR x0, rI x3] = w := Option.some.inj (show some [rR x0, rI x3] = some w from e6)
    exact (rF_b (r := 2978) (by decide) rfl).mp e7
  have f0 := ro3_186.mp f0
  clear m1 m2 m3 m4
  have r0 : 0 ≤ (1 * x2.toInt + (-1 * x3.toInt + 0)) + 0 := by
    obtain ⟨g, h, e0⟩ := f0
    have e := rRw_c (i := ic0) h sc0 ec0
    rw [show ic0 = 2 by omega] at e
    rw [e] at e0
    omega
  have r1 : 0 ≤ (-1 * x2.toInt + (1 * x3.toInt + 0)) + 0 := by
    obtain ⟨g, h, e0⟩ := f0
    have e := rRw_c (i := ic0) h sc0 ec0
    rw [show ic0 = 2 by omega] at e
    rw [e] at e0
    omega
  exact ⟨p, fun _ => rfl, ⟨(fun q h => by cases h), fun q h => (by cases h), (aAllc ⟨_, rfl, r0⟩ (aAllc ⟨_, rfl, r1⟩ (fun f h => by cases h))), (fun f h => by cases h)⟩, [], List.mem_cons_self, fun f h => (by cases h)⟩
theorem rw_riRC3 {N : Int} {K : Nat → Nat} {n : Nat} {JX : (Nat → jcell) → Prop} : aGho (rH N K n) fa_T K n JX ag_riRC3 := by
  refine aGho_of ⟨rfl, rfl⟩ ?_
  intro p σ ρ hH hX hA hM0
  have hG := aAG_of hA.1 (fun i e v he hv => (hA.2 i e v he hv).1)
  clear hA
  obtain ⟨v0, v1, v2, v3, rfl, g0, g1, g2, g3⟩ := rA_4 hG
  clear hG
  obtain ⟨x0, rfl, b0, d0⟩ := rG_ref (by decide) g0
  obtain ⟨x1, rfl, b1, d1⟩ := aG_int g1
  dsimp only at b1 d1
  obtain ⟨x2, rfl, b2, d2⟩ := aG_int g2
  dsimp only at b2 d2
  obtain ⟨x3, rfl, b3, d3⟩ := aG_int g3
  dsimp only at b3 d3
  obtain ⟨m1, m2, m3, m4⟩ := hM0
  obtain ⟨a, mc0, ty0, gc0, ic0, e1, sc0, jc0, e4, e5⟩ := m2 (0, ([(1, 1)], 0), 2) (List.mem_of_getElem? (i := 0) rfl)
  obtain rfl : x0 = a := Sum.inl.inj (Option.some.inj (Sum.inr.inj (Sum.inr.inj (Option.some.inj (show some (rR x0) = some _ from e1)))))
  obtain ⟨gc0, rfl⟩ : ∃ g, gc0 = .inl g := by
    rcases gc0 with g | g
    · exact ⟨g, rfl⟩
    · exact absurd (show some (rI x2) = some (.inr (.inl (g ic0))) from e5) (fun h => by cases h)
  have sc0 : σ x0 = .inl (ty0, mc0, .inl gc0) := sc0
  have ec0 : x2 = gc0 ic0 := Sum.inl.inj (Option.some.inj (show some (rI x2) = some _ from e5))
  have kc0 : (ic0 : Int) = (1 * x1.toInt + 0) + 0 := by
    obtain ⟨z, e6, e7⟩ := e4
    obtain rfl : (1 * x1.toInt + 0) = z := Option.some.inj (show some (1 * x1.toInt + 0) = some z from e6)
    exact e7
  clear e1 e4 e5
  have f0 : rB3 N K n p 187 [rR x0, rI x3] σ := by
    obtain ⟨w, e6, e7⟩ := m4 (2994, [0, 3]) (List.mem_of_getElem? (i := 0) rfl)
    obtain rfl : [rR x0, rI x3] = w := Option.some.inj (show some [rR x0, rI x3] = some w from e6)
    exact (rF_b (r := 2994) (by decide) rfl).mp e7
  have f0 := ro3_187.mp f0
  clear m1 m2 m3 m4
  have r0 : 0 ≤ (1 * x2.toInt + (-1 * x3.toInt + 0)) + 0 := by
    obtain ⟨g, h, e0⟩ := f0
    have e := rRw_c (i := ic0) h sc0 ec0
    rw [show ic0 = 3 by omega] at e
    rw [e] at e0
    omega
  have r1 : 0 ≤ (-1 * x2.toInt + (1 * x3.toInt + 0)) + 0 := by
    obtain ⟨g, h, e0⟩ := f0
    have e := rRw_c (i := ic0) h sc0 ec0
    rw [show ic0 = 3 by omega] at e
    rw [e] at e0
    omega
  exact ⟨p, fun _ => rfl, ⟨(fun q h => by cases h), fun q h => (by cases h), (aAllc ⟨_, rfl, r0⟩ (aAllc ⟨_, rfl, r1⟩ (fun f h => by cases h))), (fun f h => by cases h)⟩, [], List.mem_cons_self, fun f h => (by cases h)⟩
theorem rw_riH {N : Int} {K : Nat → Nat} {n : Nat} {JX : (Nat → jcell) → Prop} : aGho (rH N K n) fa_T K n JX ag_riH := by
  refine aGho_of ⟨rfl, rfl⟩ ?_
  intro p σ ρ hH hX hA hM0
  have hG := aAG_of hA.1 (fun i e v he hv => (hA.2 i e v he hv).1)
  clear hA
  obtain ⟨v0, v1, rfl, g0, g1⟩ := rA_2 hG
  clear hG
  obtain ⟨x0, rfl, b0, d0⟩ := rG_ref (by decide) g0
  obtain ⟨x1, rfl, b1, d1⟩ := aG_int g1
  dsimp only at b1 d1
  obtain ⟨m1, m2, m3, m4⟩ := hM0
  obtain ⟨T, hT⟩ := rTe_ex hH b0 d0
  obtain ⟨a0, c0, fs0, w0, e1, s0, t0, e4⟩ := m1 (0, 33, 1) (List.mem_of_getElem? (i := 0) rfl)
  obtain rfl : x0 = a0 := Sum.inl.inj (Option.some.inj (Sum.inr.inj (Sum.inr.inj (Option.some.inj (show some (rR x0) = some _ from e1)))))
  obtain rfl : rI x1 = w0 := Option.some.inj (show some (rI x1) = some w0 from e4)
  clear e1 e4
  have f0 : rB3 N K n p 463 [rR x0] σ := by
    obtain ⟨w, e6, e7⟩ := m4 (7409, [0]) (List.mem_of_getElem? (i := 0) rfl)
    obtain rfl : [rR x0] = w := Option.some.inj (show some [rR x0] = some w from e6)
    exact (rF_b (r := 7409) (by decide) rfl).mp e7
  have f0 := ro3_463.mp f0
  have f1 : rB3 N K n p 24 [] σ := by
    obtain ⟨w, e6, e7⟩ := m4 (384, []) (List.mem_of_getElem? (i := 1) rfl)
    obtain rfl : [] = w := Option.some.inj (show some [] = some w from e6)
    exact (rF_b (r := 384) (by decide) rfl).mp e7
  have f1 := ro3_24.mp f1
  clear m1 m2 m3 m4
  have q0 : rB3 N K n p 95 [] σ := ro3_95.mpr (by
    obtain ⟨cc, o1, k1, g, r, kk⟩ := f0
    cases rOb_u o1 ⟨b0, d0, _, _, s0, t0⟩
    exact ⟨_, (kk 0 (by omega) (by omega)).1, (kk 0 (by omega) (by omega)).2⟩)
  exact ⟨p, fun _ => rfl, ⟨(fun q h => by cases h), fun q h => (by cases h), (fun f h => by cases h), (aAllc ⟨_, rfl, (rF_b (r := 1520) (by decide) rfl).mpr q0⟩ (fun f h => by cases h))⟩, [], List.mem_cons_self, fun f h => (by cases h)⟩
theorem rw_riU {N : Int} {K : Nat → Nat} {n : Nat} {JX : (Nat → jcell) → Prop} : aGho (rH N K n) fa_T K n JX ag_riU := by
  refine aGho_of ⟨rfl, rfl⟩ ?_
  intro p σ ρ hH hX hA hM0
  have hG := aAG_of hA.1 (fun i e v he hv => (hA.2 i e v he hv).1)
  clear hA
  obtain ⟨v0, v1, v2, rfl, g0, g1, g2⟩ := rA_3 hG
  clear hG
  obtain ⟨x0, rfl, b0, d0⟩ := rG_ref (by decide) g0
  obtain ⟨x1, rfl, b1, d1⟩ := rG_ref (by decide) g1
  obtain ⟨x2, rfl, b2, d2⟩ := aG_int g2
  dsimp only at b2 d2
  obtain ⟨m1, m2, m3, m4⟩ := hM0
  obtain ⟨M, hM⟩ := rMe_ex hH b0 d0
  obtain ⟨T, hT⟩ := rTe_ex hH b1 d1
  have f0 : rB3 N K n p 343 [rR x1, rI x2] σ := by
    obtain ⟨w, e6, e7⟩ := m4 (5490, [1, 2]) (List.mem_of_getElem? (i := 0) rfl)
    obtain rfl : [rR x1, rI x2] = w := Option.some.inj (show some [rR x1, rI x2] = some w from e6)
    exact (rF_b (r := 5490) (by decide) rfl).mp e7
  have f0 := ro3_343.mp f0
  have f1 : rB3 N K n p 463 [rR x1] σ := by
    obtain ⟨w, e6, e7⟩ := m4 (7409, [1]) (List.mem_of_getElem? (i := 1) rfl)
    obtain rfl : [rR x1] = w := Option.some.inj (show some [rR x1] = some w from e6)
    exact (rF_b (r := 7409) (by decide) rfl).mp e7
  have f1 := ro3_463.mp f1
  have f2 : rB3 N K n p 22 [rR x0] σ := by
    obtain ⟨w, e6, e7⟩ := m4 (353, [0]) (List.mem_of_getElem? (i := 2) rfl)
    obtain rfl : [rR x0] = w := Option.some.inj (show some [rR x0] = some w from e6)
    exact (rF_b (r := 353) (by decide) rfl).mp e7
  obtain ⟨hp, hR⟩ := ro3_22.mp f2
  obtain rfl := rMg_u hM hR.1
  clear m1 m2 m3 m4
  obtain ⟨cc, o1, k1, g, r, kk⟩ := f1
  obtain ⟨g9, c9, r9, o9, j, j0, j1, e⟩ := f0 b2
  cases rOb_u o1 o9
  obtain rfl := rRo_u r r9
  have h := kk j j0 j1
  rw [e] at h
  have q0 : rB3 N K n p 25 [rI x2] σ := ro3_25.mpr (by
    exact h.1)
  have q1 : rB3 N K n (rSh rS1 p [rR x0, rI x2]) 24 [] σ := ro3_24.mpr (by
    rw [rSh_mk hp]
    exact h.2)
  exact ⟨p, fun _ => rfl, ⟨(fun q h => by cases h), fun q h => (by cases h), (fun f h => by cases h), (aAllc ⟨_, rfl, (rF_b (r := 401) (by decide) rfl).mpr q0⟩ (aAllc ⟨_, rfl, (rF_g (r := 384) (by decide)).mpr q1⟩ (fun f h => by cases h)))⟩, [], List.mem_cons_self, fun f h => (by cases h)⟩

