/-! rules of the class's Board -/
theorem fA_1 {K : Nat → Nat} {n : Nat} {t0 : aT} {ρ : List jv} (h : aAG K n [t0] ρ) : ∃ v0 : jv, ρ = [v0] ∧ aG K n t0 v0 := by
  match ρ, h with
  | [v0], h => exact ⟨v0, rfl, h.1⟩
theorem fA_2 {K : Nat → Nat} {n : Nat} {t0 t1 : aT} {ρ : List jv} (h : aAG K n [t0, t1] ρ) : ∃ v0 v1 : jv, ρ = [v0, v1] ∧ aG K n t0 v0 ∧ aG K n t1 v1 := by
  match ρ, h with
  | [v0, v1], h => exact ⟨v0, v1, rfl, h.1, h.2.1⟩
theorem fA_3 {K : Nat → Nat} {n : Nat} {t0 t1 t2 : aT} {ρ : List jv} (h : aAG K n [t0, t1, t2] ρ) : ∃ v0 v1 v2 : jv, ρ = [v0, v1, v2] ∧ aG K n t0 v0 ∧ aG K n t1 v1 ∧ aG K n t2 v2 := by
  match ρ, h with
  | [v0, v1, v2], h => exact ⟨v0, v1, v2, rfl, h.1, h.2.1, h.2.2.1⟩
theorem fA_4 {K : Nat → Nat} {n : Nat} {t0 t1 t2 t3 : aT} {ρ : List jv} (h : aAG K n [t0, t1, t2, t3] ρ) : ∃ v0 v1 v2 v3 : jv, ρ = [v0, v1, v2, v3] ∧ aG K n t0 v0 ∧ aG K n t1 v1 ∧ aG K n t2 v2 ∧ aG K n t3 v3 := by
  match ρ, h with
  | [v0, v1, v2, v3], h => exact ⟨v0, v1, v2, v3, rfl, h.1, h.2.1, h.2.2.1, h.2.2.2.1⟩
theorem fA_5 {K : Nat → Nat} {n : Nat} {t0 t1 t2 t3 t4 : aT} {ρ : List jv} (h : aAG K n [t0, t1, t2, t3, t4] ρ) : ∃ v0 v1 v2 v3 v4 : jv, ρ = [v0, v1, v2, v3, v4] ∧ aG K n t0 v0 ∧ aG K n t1 v1 ∧ aG K n t2 v2 ∧ aG K n t3 v3 ∧ aG K n t4 v4 := by
  match ρ, h with
  | [v0, v1, v2, v3, v4], h => exact ⟨v0, v1, v2, v3, v4, rfl, h.1, h.2.1, h.2.2.1, h.2.2.2.1, h.2.2.2.2.1⟩
theorem fA_6 {K : Nat → Nat} {n : Nat} {t0 t1 t2 t3 t4 t5 : aT} {ρ : List jv} (h : aAG K n [t0, t1, t2, t3, t4, t5] ρ) : ∃ v0 v1 v2 v3 v4 v5 : jv, ρ = [v0, v1, v2, v3, v4, v5] ∧ aG K n t0 v0 ∧ aG K n t1 v1 ∧ aG K n t2 v2 ∧ aG K n t3 v3 ∧ aG K n t4 v4 ∧ aG K n t5 v5 := by
  match ρ, h with
  | [v0, v1, v2, v3, v4, v5], h => exact ⟨v0, v1, v2, v3, v4, v5, rfl, h.1, h.2.1, h.2.2.1, h.2.2.2.1, h.2.2.2.2.1, h.2.2.2.2.2.1⟩
theorem fA_7 {K : Nat → Nat} {n : Nat} {t0 t1 t2 t3 t4 t5 t6 : aT} {ρ : List jv} (h : aAG K n [t0, t1, t2, t3, t4, t5, t6] ρ) : ∃ v0 v1 v2 v3 v4 v5 v6 : jv, ρ = [v0, v1, v2, v3, v4, v5, v6] ∧ aG K n t0 v0 ∧ aG K n t1 v1 ∧ aG K n t2 v2 ∧ aG K n t3 v3 ∧ aG K n t4 v4 ∧ aG K n t5 v5 ∧ aG K n t6 v6 := by
  match ρ, h with
  | [v0, v1, v2, v3, v4, v5, v6], h => exact ⟨v0, v1, v2, v3, v4, v5, v6, rfl, h.1, h.2.1, h.2.2.1, h.2.2.2.1, h.2.2.2.2.1, h.2.2.2.2.2.1, h.2.2.2.2.2.2.1⟩
theorem fA_8 {K : Nat → Nat} {n : Nat} {t0 t1 t2 t3 t4 t5 t6 t7 : aT} {ρ : List jv} (h : aAG K n [t0, t1, t2, t3, t4, t5, t6, t7] ρ) : ∃ v0 v1 v2 v3 v4 v5 v6 v7 : jv, ρ = [v0, v1, v2, v3, v4, v5, v6, v7] ∧ aG K n t0 v0 ∧ aG K n t1 v1 ∧ aG K n t2 v2 ∧ aG K n t3 v3 ∧ aG K n t4 v4 ∧ aG K n t5 v5 ∧ aG K n t6 v6 ∧ aG K n t7 v7 := by
  match ρ, h with
  | [v0, v1, v2, v3, v4, v5, v6, v7], h => exact ⟨v0, v1, v2, v3, v4, v5, v6, v7, rfl, h.1, h.2.1, h.2.2.1, h.2.2.2.1, h.2.2.2.2.1, h.2.2.2.2.2.1, h.2.2.2.2.2.2.1, h.2.2.2.2.2.2.2.1⟩
theorem fA_9 {K : Nat → Nat} {n : Nat} {t0 t1 t2 t3 t4 t5 t6 t7 t8 : aT} {ρ : List jv} (h : aAG K n [t0, t1, t2, t3, t4, t5, t6, t7, t8] ρ) : ∃ v0 v1 v2 v3 v4 v5 v6 v7 v8 : jv, ρ = [v0, v1, v2, v3, v4, v5, v6, v7, v8] ∧ aG K n t0 v0 ∧ aG K n t1 v1 ∧ aG K n t2 v2 ∧ aG K n t3 v3 ∧ aG K n t4 v4 ∧ aG K n t5 v5 ∧ aG K n t6 v6 ∧ aG K n t7 v7 ∧ aG K n t8 v8 := by
  match ρ, h with
  | [v0, v1, v2, v3, v4, v5, v6, v7, v8], h => exact ⟨v0, v1, v2, v3, v4, v5, v6, v7, v8, rfl, h.1, h.2.1, h.2.2.1, h.2.2.2.1, h.2.2.2.2.1, h.2.2.2.2.2.1, h.2.2.2.2.2.2.1, h.2.2.2.2.2.2.2.1, h.2.2.2.2.2.2.2.2.1⟩
theorem fA_10 {K : Nat → Nat} {n : Nat} {t0 t1 t2 t3 t4 t5 t6 t7 t8 t9 : aT} {ρ : List jv} (h : aAG K n [t0, t1, t2, t3, t4, t5, t6, t7, t8, t9] ρ) : ∃ v0 v1 v2 v3 v4 v5 v6 v7 v8 v9 : jv, ρ = [v0, v1, v2, v3, v4, v5, v6, v7, v8, v9] ∧ aG K n t0 v0 ∧ aG K n t1 v1 ∧ aG K n t2 v2 ∧ aG K n t3 v3 ∧ aG K n t4 v4 ∧ aG K n t5 v5 ∧ aG K n t6 v6 ∧ aG K n t7 v7 ∧ aG K n t8 v8 ∧ aG K n t9 v9 := by
  match ρ, h with
  | [v0, v1, v2, v3, v4, v5, v6, v7, v8, v9], h => exact ⟨v0, v1, v2, v3, v4, v5, v6, v7, v8, v9, rfl, h.1, h.2.1, h.2.2.1, h.2.2.2.1, h.2.2.2.2.1, h.2.2.2.2.2.1, h.2.2.2.2.2.2.1, h.2.2.2.2.2.2.2.1, h.2.2.2.2.2.2.2.2.1, h.2.2.2.2.2.2.2.2.2.1⟩
theorem fA_11 {K : Nat → Nat} {n : Nat} {t0 t1 t2 t3 t4 t5 t6 t7 t8 t9 t10 : aT} {ρ : List jv} (h : aAG K n [t0, t1, t2, t3, t4, t5, t6, t7, t8, t9, t10] ρ) : ∃ v0 v1 v2 v3 v4 v5 v6 v7 v8 v9 v10 : jv, ρ = [v0, v1, v2, v3, v4, v5, v6, v7, v8, v9, v10] ∧ aG K n t0 v0 ∧ aG K n t1 v1 ∧ aG K n t2 v2 ∧ aG K n t3 v3 ∧ aG K n t4 v4 ∧ aG K n t5 v5 ∧ aG K n t6 v6 ∧ aG K n t7 v7 ∧ aG K n t8 v8 ∧ aG K n t9 v9 ∧ aG K n t10 v10 := by
  match ρ, h with
  | [v0, v1, v2, v3, v4, v5, v6, v7, v8, v9, v10], h => exact ⟨v0, v1, v2, v3, v4, v5, v6, v7, v8, v9, v10, rfl, h.1, h.2.1, h.2.2.1, h.2.2.2.1, h.2.2.2.2.1, h.2.2.2.2.2.1, h.2.2.2.2.2.2.1, h.2.2.2.2.2.2.2.1, h.2.2.2.2.2.2.2.2.1, h.2.2.2.2.2.2.2.2.2.1, h.2.2.2.2.2.2.2.2.2.2.1⟩
theorem fA_12 {K : Nat → Nat} {n : Nat} {t0 t1 t2 t3 t4 t5 t6 t7 t8 t9 t10 t11 : aT} {ρ : List jv} (h : aAG K n [t0, t1, t2, t3, t4, t5, t6, t7, t8, t9, t10, t11] ρ) : ∃ v0 v1 v2 v3 v4 v5 v6 v7 v8 v9 v10 v11 : jv, ρ = [v0, v1, v2, v3, v4, v5, v6, v7, v8, v9, v10, v11] ∧ aG K n t0 v0 ∧ aG K n t1 v1 ∧ aG K n t2 v2 ∧ aG K n t3 v3 ∧ aG K n t4 v4 ∧ aG K n t5 v5 ∧ aG K n t6 v6 ∧ aG K n t7 v7 ∧ aG K n t8 v8 ∧ aG K n t9 v9 ∧ aG K n t10 v10 ∧ aG K n t11 v11 := by
  match ρ, h with
  | [v0, v1, v2, v3, v4, v5, v6, v7, v8, v9, v10, v11], h => exact ⟨v0, v1, v2, v3, v4, v5, v6, v7, v8, v9, v10, v11, rfl, h.1, h.2.1, h.2.2.1, h.2.2.2.1, h.2.2.2.2.1, h.2.2.2.2.2.1, h.2.2.2.2.2.2.1, h.2.2.2.2.2.2.2.1, h.2.2.2.2.2.2.2.2.1, h.2.2.2.2.2.2.2.2.2.1, h.2.2.2.2.2.2.2.2.2.2.1, h.2.2.2.2.2.2.2.2.2.2.2.1⟩
theorem rw_ruREA {K : Nat → Nat} {n : Nat} : aGho (fF K n) fa_T K n (fJX K n) ag_ruREA := by
  refine aGho_of ⟨rfl, rfl⟩ ?_
  intro p σ ρ hH hX hA hM
  have hG := aAG_of hA.1 (fun i e v he hv => (hA.2 i e v he hv).1)
  clear hA
  obtain ⟨v0, v1, v2, v3, rfl, g0, g1, g2, g3⟩ := fA_4 hG
  clear hG
  obtain ⟨x0, rfl, b0, d0⟩ := fG_ref (by decide) g0
  obtain ⟨x1, rfl, b1, d1⟩ := aG_int g1
  dsimp only at b1 d1
  obtain ⟨x2, rfl, b2, d2⟩ := aG_int g2
  dsimp only at b2 d2
  obtain ⟨x3, rfl, b3, d3⟩ := aG_int g3
  dsimp only at b3 d3
  obtain ⟨m1, m2, m3, m4⟩ := hM
  obtain ⟨a, mc0, ty0, gc0, ic0, e1, sc0, jc0, e4, e5⟩ := m2 (0, ([(1, 8), (2, 1)], 0), 3) (List.mem_of_getElem? (i := 0) rfl)
  obtain rfl : x0 = a := Sum.inl.inj (Option.some.inj (Sum.inr.inj (Sum.inr.inj (Option.some.inj (show some (fR x0) = some _ from e1)))))
  obtain ⟨gc0, rfl⟩ : ∃ g, gc0 = .inl g := by
    rcases gc0 with g | g
    · exact ⟨g, rfl⟩
    · exact absurd (show some (fI x3) = some (.inr (.inl (g ic0))) from e5) (fun h => by cases h)
  have sc0 : σ x0 = .inl (ty0, mc0, .inl gc0) := sc0
  have ec0 : x3 = gc0 ic0 := Sum.inl.inj (Option.some.inj (show some (fI x3) = some _ from e5))
  have kc0 : (ic0 : Int) = (8 * x1.toInt + (1 * x2.toInt + 0)) + 0 := by
    obtain ⟨z, e6, e7⟩ := e4
    obtain rfl : (8 * x1.toInt + (1 * x2.toInt + 0)) = z := Option.some.inj (show some (8 * x1.toInt + (1 * x2.toInt + 0)) = some z from e6)
    exact e7
  clear e1 e4 e5
  clear m1 m2 m3 m4
  have q0 : fB K n p 19 [fI x1, fI x2, fI x3] σ := by
    obtain ⟨g, h1, h2⟩ := hX.1 x0 b0 d0
    rw [h1] at sc0
    cases sc0
    refine ⟨x1, x2, x3, rfl, ?_⟩
    have h3 := h2 x1.toInt.toNat x2.toInt.toNat (by omega) (by omega)
    rw [show 8 * x1.toInt.toNat + x2.toInt.toNat = ic0 by omega] at h3
    rw [ec0, h3, show ((x1.toInt.toNat : Nat) : Int) = x1.toInt by omega, show ((x2.toInt.toNat : Nat) : Int) = x2.toInt by omega]
  refine ⟨p, fun _ => rfl, ⟨fun q h => (by cases h), fun q h => (by cases h), ?_, ?_⟩, [], List.mem_cons_self, fun f h => (by cases h)⟩
  · exact fun f h => by cases h
  · exact (aAllc ⟨_, rfl, (fF_b (r := 307) (by decide) rfl).mpr q0⟩ (fun f h => by cases h))
theorem rw_ruSTP0 {K : Nat → Nat} {n : Nat} : aGho (fF K n) fa_T K n (fJX K n) ag_ruSTP0 := by
  refine aGho_of ⟨rfl, rfl⟩ ?_
  intro p σ ρ hH hX hA hM
  have hG := aAG_of hA.1 (fun i e v he hv => (hA.2 i e v he hv).1)
  clear hA
  obtain ⟨v0, v1, rfl, g0, g1⟩ := fA_2 hG
  clear hG
  obtain ⟨x0, rfl, b0, d0⟩ := aG_int g0
  dsimp only at b0 d0
  obtain ⟨x1, rfl, b1, d1⟩ := aG_int g1
  dsimp only at b1 d1
  obtain ⟨m1, m2, m3, m4⟩ := hM
  clear m1 m2 m3 m4
  have q0 : fB K n p 22 [fI x0, fI x1] σ := by
    refine ⟨x0, x1, rfl, ?_⟩
    have h1 : fSt 0 = 8 := by decide
    rw [show x0.toInt = 0 by omega, h1]
    omega
  refine ⟨p, fun _ => rfl, ⟨fun q h => (by cases h), fun q h => (by cases h), ?_, ?_⟩, [], List.mem_cons_self, fun f h => (by cases h)⟩
  · exact fun f h => by cases h
  · exact (aAllc ⟨_, rfl, (fF_b (r := 354) (by decide) rfl).mpr q0⟩ (fun f h => by cases h))
theorem rw_ruSTP1 {K : Nat → Nat} {n : Nat} : aGho (fF K n) fa_T K n (fJX K n) ag_ruSTP1 := by
  refine aGho_of ⟨rfl, rfl⟩ ?_
  intro p σ ρ hH hX hA hM
  have hG := aAG_of hA.1 (fun i e v he hv => (hA.2 i e v he hv).1)
  clear hA
  obtain ⟨v0, v1, rfl, g0, g1⟩ := fA_2 hG
  clear hG
  obtain ⟨x0, rfl, b0, d0⟩ := aG_int g0
  dsimp only at b0 d0
  obtain ⟨x1, rfl, b1, d1⟩ := aG_int g1
  dsimp only at b1 d1
  obtain ⟨m1, m2, m3, m4⟩ := hM
  clear m1 m2 m3 m4
  have q0 : fB K n p 22 [fI x0, fI x1] σ := by
    refine ⟨x0, x1, rfl, ?_⟩
    have h1 : fSt 1 = -8 := by decide
    rw [show x0.toInt = 1 by omega, h1]
    omega
  refine ⟨p, fun _ => rfl, ⟨fun q h => (by cases h), fun q h => (by cases h), ?_, ?_⟩, [], List.mem_cons_self, fun f h => (by cases h)⟩
  · exact fun f h => by cases h
  · exact (aAllc ⟨_, rfl, (fF_b (r := 354) (by decide) rfl).mpr q0⟩ (fun f h => by cases h))
theorem rw_ruSTP2 {K : Nat → Nat} {n : Nat} : aGho (fF K n) fa_T K n (fJX K n) ag_ruSTP2 := by
  refine aGho_of ⟨rfl, rfl⟩ ?_
  intro p σ ρ hH hX hA hM
  have hG := aAG_of hA.1 (fun i e v he hv => (hA.2 i e v he hv).1)
  clear hA
  obtain ⟨v0, v1, rfl, g0, g1⟩ := fA_2 hG
  clear hG
  obtain ⟨x0, rfl, b0, d0⟩ := aG_int g0
  dsimp only at b0 d0
  obtain ⟨x1, rfl, b1, d1⟩ := aG_int g1
  dsimp only at b1 d1
  obtain ⟨m1, m2, m3, m4⟩ := hM
  clear m1 m2 m3 m4
  have q0 : fB K n p 22 [fI x0, fI x1] σ := by
    refine ⟨x0, x1, rfl, ?_⟩
    have h1 : fSt 2 = 1 := by decide
    rw [show x0.toInt = 2 by omega, h1]
    omega
  refine ⟨p, fun _ => rfl, ⟨fun q h => (by cases h), fun q h => (by cases h), ?_, ?_⟩, [], List.mem_cons_self, fun f h => (by cases h)⟩
  · exact fun f h => by cases h
  · exact (aAllc ⟨_, rfl, (fF_b (r := 354) (by decide) rfl).mpr q0⟩ (fun f h => by cases h))
theorem rw_ruSTP3 {K : Nat → Nat} {n : Nat} : aGho (fF K n) fa_T K n (fJX K n) ag_ruSTP3 := by
  refine aGho_of ⟨rfl, rfl⟩ ?_
  intro p σ ρ hH hX hA hM
  have hG := aAG_of hA.1 (fun i e v he hv => (hA.2 i e v he hv).1)
  clear hA
  obtain ⟨v0, v1, rfl, g0, g1⟩ := fA_2 hG
  clear hG
  obtain ⟨x0, rfl, b0, d0⟩ := aG_int g0
  dsimp only at b0 d0
  obtain ⟨x1, rfl, b1, d1⟩ := aG_int g1
  dsimp only at b1 d1
  obtain ⟨m1, m2, m3, m4⟩ := hM
  clear m1 m2 m3 m4
  have q0 : fB K n p 22 [fI x0, fI x1] σ := by
    refine ⟨x0, x1, rfl, ?_⟩
    have h1 : fSt 3 = -1 := by decide
    rw [show x0.toInt = 3 by omega, h1]
    omega
  refine ⟨p, fun _ => rfl, ⟨fun q h => (by cases h), fun q h => (by cases h), ?_, ?_⟩, [], List.mem_cons_self, fun f h => (by cases h)⟩
  · exact fun f h => by cases h
  · exact (aAllc ⟨_, rfl, (fF_b (r := 354) (by decide) rfl).mpr q0⟩ (fun f h => by cases h))
theorem rw_ruSTP4 {K : Nat → Nat} {n : Nat} : aGho (fF K n) fa_T K n (fJX K n) ag_ruSTP4 := by
  refine aGho_of ⟨rfl, rfl⟩ ?_
  intro p σ ρ hH hX hA hM
  have hG := aAG_of hA.1 (fun i e v he hv => (hA.2 i e v he hv).1)
  clear hA
  obtain ⟨v0, v1, rfl, g0, g1⟩ := fA_2 hG
  clear hG
  obtain ⟨x0, rfl, b0, d0⟩ := aG_int g0
  dsimp only at b0 d0
  obtain ⟨x1, rfl, b1, d1⟩ := aG_int g1
  dsimp only at b1 d1
  obtain ⟨m1, m2, m3, m4⟩ := hM
  clear m1 m2 m3 m4
  have q0 : fB K n p 22 [fI x0, fI x1] σ := by
    refine ⟨x0, x1, rfl, ?_⟩
    have h1 : fSt 4 = 9 := by decide
    rw [show x0.toInt = 4 by omega, h1]
    omega
  refine ⟨p, fun _ => rfl, ⟨fun q h => (by cases h), fun q h => (by cases h), ?_, ?_⟩, [], List.mem_cons_self, fun f h => (by cases h)⟩
  · exact fun f h => by cases h
  · exact (aAllc ⟨_, rfl, (fF_b (r := 354) (by decide) rfl).mpr q0⟩ (fun f h => by cases h))
theorem rw_ruSTP5 {K : Nat → Nat} {n : Nat} : aGho (fF K n) fa_T K n (fJX K n) ag_ruSTP5 := by
  refine aGho_of ⟨rfl, rfl⟩ ?_
  intro p σ ρ hH hX hA hM
  have hG := aAG_of hA.1 (fun i e v he hv => (hA.2 i e v he hv).1)
  clear hA
  obtain ⟨v0, v1, rfl, g0, g1⟩ := fA_2 hG
  clear hG
  obtain ⟨x0, rfl, b0, d0⟩ := aG_int g0
  dsimp only at b0 d0
  obtain ⟨x1, rfl, b1, d1⟩ := aG_int g1
  dsimp only at b1 d1
  obtain ⟨m1, m2, m3, m4⟩ := hM
  clear m1 m2 m3 m4
  have q0 : fB K n p 22 [fI x0, fI x1] σ := by
    refine ⟨x0, x1, rfl, ?_⟩
    have h1 : fSt 5 = 7 := by decide
    rw [show x0.toInt = 5 by omega, h1]
    omega
  refine ⟨p, fun _ => rfl, ⟨fun q h => (by cases h), fun q h => (by cases h), ?_, ?_⟩, [], List.mem_cons_self, fun f h => (by cases h)⟩
  · exact fun f h => by cases h
  · exact (aAllc ⟨_, rfl, (fF_b (r := 354) (by decide) rfl).mpr q0⟩ (fun f h => by cases h))
theorem rw_ruSTP6 {K : Nat → Nat} {n : Nat} : aGho (fF K n) fa_T K n (fJX K n) ag_ruSTP6 := by
  refine aGho_of ⟨rfl, rfl⟩ ?_
  intro p σ ρ hH hX hA hM
  have hG := aAG_of hA.1 (fun i e v he hv => (hA.2 i e v he hv).1)
  clear hA
  obtain ⟨v0, v1, rfl, g0, g1⟩ := fA_2 hG
  clear hG
  obtain ⟨x0, rfl, b0, d0⟩ := aG_int g0
  dsimp only at b0 d0
  obtain ⟨x1, rfl, b1, d1⟩ := aG_int g1
  dsimp only at b1 d1
  obtain ⟨m1, m2, m3, m4⟩ := hM
  clear m1 m2 m3 m4
  have q0 : fB K n p 22 [fI x0, fI x1] σ := by
    refine ⟨x0, x1, rfl, ?_⟩
    have h1 : fSt 6 = -7 := by decide
    rw [show x0.toInt = 6 by omega, h1]
    omega
  refine ⟨p, fun _ => rfl, ⟨fun q h => (by cases h), fun q h => (by cases h), ?_, ?_⟩, [], List.mem_cons_self, fun f h => (by cases h)⟩
  · exact fun f h => by cases h
  · exact (aAllc ⟨_, rfl, (fF_b (r := 354) (by decide) rfl).mpr q0⟩ (fun f h => by cases h))
theorem rw_ruSTP7 {K : Nat → Nat} {n : Nat} : aGho (fF K n) fa_T K n (fJX K n) ag_ruSTP7 := by
  refine aGho_of ⟨rfl, rfl⟩ ?_
  intro p σ ρ hH hX hA hM
  have hG := aAG_of hA.1 (fun i e v he hv => (hA.2 i e v he hv).1)
  clear hA
  obtain ⟨v0, v1, rfl, g0, g1⟩ := fA_2 hG
  clear hG
  obtain ⟨x0, rfl, b0, d0⟩ := aG_int g0
  dsimp only at b0 d0
  obtain ⟨x1, rfl, b1, d1⟩ := aG_int g1
  dsimp only at b1 d1
  obtain ⟨m1, m2, m3, m4⟩ := hM
  clear m1 m2 m3 m4
  have q0 : fB K n p 22 [fI x0, fI x1] σ := by
    refine ⟨x0, x1, rfl, ?_⟩
    have h1 : fSt 7 = -9 := by decide
    rw [show x0.toInt = 7 by omega, h1]
    omega
  refine ⟨p, fun _ => rfl, ⟨fun q h => (by cases h), fun q h => (by cases h), ?_, ?_⟩, [], List.mem_cons_self, fun f h => (by cases h)⟩
  · exact fun f h => by cases h
  · exact (aAllc ⟨_, rfl, (fF_b (r := 354) (by decide) rfl).mpr q0⟩ (fun f h => by cases h))
theorem rw_ruRAY0 {K : Nat → Nat} {n : Nat} : aGho (fF K n) fa_T K n (fJX K n) ag_ruRAY0 := by
  refine aGho_of ⟨rfl, rfl⟩ ?_
  intro p σ ρ hH hX hA hM
  have hG := aAG_of hA.1 (fun i e v he hv => (hA.2 i e v he hv).1)
  clear hA
  obtain ⟨v0, v1, v2, rfl, g0, g1, g2⟩ := fA_3 hG
  clear hG
  obtain ⟨x0, rfl, b0, d0⟩ := aG_int g0
  dsimp only at b0 d0
  obtain ⟨x1, rfl, b1, d1⟩ := aG_int g1
  dsimp only at b1 d1
  obtain ⟨x2, rfl, b2, d2⟩ := aG_int g2
  dsimp only at b2 d2
  obtain ⟨m1, m2, m3, m4⟩ := hM
  clear m1 m2 m3 m4
  have q0 : fB K n p 7 [fI x0, fI x1, fI x2, fI x0] σ := by
    have h := (fTab b0 d0 b1 d1).1
    refine ⟨x0, x1, x2, x0, rfl, by omega, by omega, ?_⟩
    rw [show x2.toInt - 1 = 0 by omega, Int.zero_mul]
    omega
  refine ⟨p, fun _ => rfl, ⟨fun q h => (by cases h), fun q h => (by cases h), ?_, ?_⟩, [], List.mem_cons_self, fun f h => (by cases h)⟩
  · exact fun f h => by cases h
  · exact (aAllc ⟨_, rfl, (fF_b (r := 116) (by decide) rfl).mpr q0⟩ (fun f h => by cases h))
theorem rw_ruRAYs {K : Nat → Nat} {n : Nat} : aGho (fF K n) fa_T K n (fJX K n) ag_ruRAYs := by
  refine aGho_of ⟨rfl, rfl⟩ ?_
  intro p σ ρ hH hX hA hM
  have hG := aAG_of hA.1 (fun i e v he hv => (hA.2 i e v he hv).1)
  clear hA
  obtain ⟨v0, v1, v2, v3, v4, v5, v6, rfl, g0, g1, g2, g3, g4, g5, g6⟩ := fA_7 hG
  clear hG
  obtain ⟨x0, rfl, b0, d0⟩ := aG_int g0
  dsimp only at b0 d0
  obtain ⟨x1, rfl, b1, d1⟩ := aG_int g1
  dsimp only at b1 d1
  obtain ⟨x2, rfl, b2, d2⟩ := aG_int g2
  dsimp only at b2 d2
  obtain ⟨x3, rfl, b3, d3⟩ := aG_int g3
  dsimp only at b3 d3
  obtain ⟨x4, rfl, b4, d4⟩ := aG_int g4
  dsimp only at b4 d4
  obtain ⟨x5, rfl, b5, d5⟩ := aG_int g5
  dsimp only at b5 d5
  obtain ⟨x6, rfl, b6, d6⟩ := aG_int g6
  dsimp only at b6 d6
  obtain ⟨m1, m2, m3, m4⟩ := hM
  have l0 : 0 ≤ (1 * x4.toInt + (-1 * x2.toInt + 0)) + 0 := by
    obtain ⟨z, e6, e7⟩ := m3 ([(4, 1), (2, -1)], 0) (List.mem_of_getElem? (i := 0) rfl)
    obtain rfl : (1 * x4.toInt + (-1 * x2.toInt + 0)) = z := Option.some.inj (show some (1 * x4.toInt + (-1 * x2.toInt + 0)) = some z from e6)
    exact e7
  have l1 : 0 ≤ (1 * x6.toInt + (-1 * x3.toInt + (-1 * x5.toInt + 0))) + 0 := by
    obtain ⟨z, e6, e7⟩ := m3 ([(6, 1), (3, -1), (5, -1)], 0) (List.mem_of_getElem? (i := 1) rfl)
    obtain rfl : (1 * x6.toInt + (-1 * x3.toInt + (-1 * x5.toInt + 0))) = z := Option.some.inj (show some (1 * x6.toInt + (-1 * x3.toInt + (-1 * x5.toInt + 0))) = some z from e6)
    exact e7
  have l2 : 0 ≤ (-1 * x6.toInt + (1 * x3.toInt + (1 * x5.toInt + 0))) + 0 := by
    obtain ⟨z, e6, e7⟩ := m3 ([(6, -1), (3, 1), (5, 1)], 0) (List.mem_of_getElem? (i := 2) rfl)
    obtain rfl : (-1 * x6.toInt + (1 * x3.toInt + (1 * x5.toInt + 0))) = z := Option.some.inj (show some (-1 * x6.toInt + (1 * x3.toInt + (1 * x5.toInt + 0))) = some z from e6)
    exact e7
  have f0 : fB K n p 7 [fI x0, fI x1, fI x2, fI x3] σ := by
    obtain ⟨w, e6, e7⟩ := m4 (116, [0, 1, 2, 3]) (List.mem_of_getElem? (i := 0) rfl)
    obtain rfl : [fI x0, fI x1, fI x2, fI x3] = w := Option.some.inj (show some [fI x0, fI x1, fI x2, fI x3] = some w from e6)
    exact (fF_b (r := 116) (by decide) rfl).mp e7
  have f1 : fB K n p 19 [fI x0, fI x1, fI x4] σ := by
    obtain ⟨w, e6, e7⟩ := m4 (307, [0, 1, 4]) (List.mem_of_getElem? (i := 1) rfl)
    obtain rfl : [fI x0, fI x1, fI x4] = w := Option.some.inj (show some [fI x0, fI x1, fI x4] = some w from e6)
    exact (fF_b (r := 307) (by decide) rfl).mp e7
  have f2 : fB K n p 22 [fI x1, fI x5] σ := by
    obtain ⟨w, e6, e7⟩ := m4 (354, [1, 5]) (List.mem_of_getElem? (i := 2) rfl)
    obtain rfl : [fI x1, fI x5] = w := Option.some.inj (show some [fI x1, fI x5] = some w from e6)
    exact (fF_b (r := 354) (by decide) rfl).mp e7
  clear m1 m2 m3 m4
  have r0 : 0 ≤ (1 * x6.toInt + 0) + 0 := by
    obtain ⟨s, i, k, t, e, h1, h2, h3⟩ := f0
    cases e
    obtain ⟨s, i, v, e, h4⟩ := f1
    cases e
    obtain ⟨i, v, e, h5⟩ := f2
    cases e
    have h6 : x6.toInt = x0.toInt + x2.toInt * fSt x1.toInt := by
      rw [Int.sub_mul, Int.one_mul] at h3
      omega
    have h7 := fRay b0 d0 b1 d1 h1 (by omega)
    omega
  have r1 : 0 ≤ (-1 * x6.toInt + 0) + 63 := by
    obtain ⟨s, i, k, t, e, h1, h2, h3⟩ := f0
    cases e
    obtain ⟨s, i, v, e, h4⟩ := f1
    cases e
    obtain ⟨i, v, e, h5⟩ := f2
    cases e
    have h6 : x6.toInt = x0.toInt + x2.toInt * fSt x1.toInt := by
      rw [Int.sub_mul, Int.one_mul] at h3
      omega
    have h7 := fRay b0 d0 b1 d1 h1 (by omega)
    omega
  have q0 : fB K n p 18 [fI x0, fI x1, fI x2, fI x6] σ := by
    obtain ⟨s, i, k, t, e, h1, h2, h3⟩ := f0
    cases e
    obtain ⟨s, i, v, e, h4⟩ := f1
    cases e
    obtain ⟨i, v, e, h5⟩ := f2
    cases e
    have h6 : x6.toInt = x0.toInt + x2.toInt * fSt x1.toInt := by
      rw [Int.sub_mul, Int.one_mul] at h3
      omega
    have h7 := fRay b0 d0 b1 d1 h1 (by omega)
    exact ⟨x0, x1, x2, x6, rfl, h1, by omega, h6⟩
  refine ⟨p, fun _ => rfl, ⟨fun q h => (by cases h), fun q h => (by cases h), ?_, ?_⟩, [], List.mem_cons_self, fun f h => (by cases h)⟩
  · exact (aAllc ⟨_, rfl, r0⟩ (aAllc ⟨_, rfl, r1⟩ (fun f h => by cases h)))
  · exact (aAllc ⟨_, rfl, (fF_b (r := 292) (by decide) rfl).mpr q0⟩ (fun f h => by cases h))
theorem rw_ruRAYn {K : Nat → Nat} {n : Nat} : aGho (fF K n) fa_T K n (fJX K n) ag_ruRAYn := by
  refine aGho_of ⟨rfl, rfl⟩ ?_
  intro p σ ρ hH hX hA hM
  have hG := aAG_of hA.1 (fun i e v he hv => (hA.2 i e v he hv).1)
  clear hA
  obtain ⟨v0, v1, v2, v3, v4, rfl, g0, g1, g2, g3, g4⟩ := fA_5 hG
  clear hG
  obtain ⟨x0, rfl, b0, d0⟩ := aG_int g0
  dsimp only at b0 d0
  obtain ⟨x1, rfl, b1, d1⟩ := aG_int g1
  dsimp only at b1 d1
  obtain ⟨x2, rfl, b2, d2⟩ := aG_int g2
  dsimp only at b2 d2
  obtain ⟨x3, rfl, b3, d3⟩ := aG_int g3
  dsimp only at b3 d3
  obtain ⟨x4, rfl, b4, d4⟩ := aG_int g4
  dsimp only at b4 d4
  obtain ⟨m1, m2, m3, m4⟩ := hM
  have l0 : 0 ≤ (1 * x4.toInt + (-1 * x2.toInt + 0)) + -1 := by
    obtain ⟨z, e6, e7⟩ := m3 ([(4, 1), (2, -1)], -1) (List.mem_of_getElem? (i := 0) rfl)
    obtain rfl : (1 * x4.toInt + (-1 * x2.toInt + 0)) = z := Option.some.inj (show some (1 * x4.toInt + (-1 * x2.toInt + 0)) = some z from e6)
    exact e7
  have l1 : 0 ≤ (-1 * x4.toInt + (1 * x2.toInt + 0)) + 1 := by
    obtain ⟨z, e6, e7⟩ := m3 ([(4, -1), (2, 1)], 1) (List.mem_of_getElem? (i := 1) rfl)
    obtain rfl : (-1 * x4.toInt + (1 * x2.toInt + 0)) = z := Option.some.inj (show some (-1 * x4.toInt + (1 * x2.toInt + 0)) = some z from e6)
    exact e7
  have f0 : fB K n p 18 [fI x0, fI x1, fI x2, fI x3] σ := by
    obtain ⟨w, e6, e7⟩ := m4 (292, [0, 1, 2, 3]) (List.mem_of_getElem? (i := 0) rfl)
    obtain rfl : [fI x0, fI x1, fI x2, fI x3] = w := Option.some.inj (show some [fI x0, fI x1, fI x2, fI x3] = some w from e6)
    exact (fF_b (r := 292) (by decide) rfl).mp e7
  clear m1 m2 m3 m4
  have q0 : fB K n p 7 [fI x0, fI x1, fI x4, fI x3] σ := by
    obtain ⟨s, i, k, t, e, h1, h2, h3⟩ := f0
    cases e
    refine ⟨x0, x1, x4, x3, rfl, by omega, by omega, ?_⟩
    rw [show x4.toInt - 1 = x2.toInt by omega]
    exact h3
  refine ⟨p, fun _ => rfl, ⟨fun q h => (by cases h), fun q h => (by cases h), ?_, ?_⟩, [], List.mem_cons_self, fun f h => (by cases h)⟩
  · exact fun f h => by cases h
  · exact (aAllc ⟨_, rfl, (fF_b (r := 116) (by decide) rfl).mpr q0⟩ (fun f h => by cases h))
theorem rw_ruSLC0 {K : Nat → Nat} {n : Nat} : aGho (fF K n) fa_T K n (fJX K n) ag_ruSLC0 := by
  refine aGho_of ⟨rfl, rfl⟩ ?_
  intro p σ ρ hH hX hA hM
  have hG := aAG_of hA.1 (fun i e v he hv => (hA.2 i e v he hv).1)
  clear hA
  obtain ⟨v0, v1, v2, rfl, g0, g1, g2⟩ := fA_3 hG
  clear hG
  obtain ⟨x0, rfl, b0, d0⟩ := aG_int g0
  dsimp only at b0 d0
  obtain ⟨x1, rfl, b1, d1⟩ := aG_int g1
  dsimp only at b1 d1
  obtain ⟨x2, rfl, b2, d2⟩ := aG_int g2
  dsimp only at b2 d2
  obtain ⟨m1, m2, m3, m4⟩ := hM
  clear m1 m2 m3 m4
  have q0 : fB K n p 23 [fI x0, fI x1, fI x2, fI x2] σ := by
    refine ⟨x0, x1, x2, x2, rfl, ?_⟩
    have h := (fTab b0 d0 b1 (by omega)).2.2.1
    omega
  refine ⟨p, fun _ => rfl, ⟨fun q h => (by cases h), fun q h => (by cases h), ?_, ?_⟩, [], List.mem_cons_self, fun f h => (by cases h)⟩
  · exact fun f h => by cases h
  · exact (aAllc ⟨_, rfl, (fF_b (r := 372) (by decide) rfl).mpr q0⟩ (fun f h => by cases h))
theorem rw_ruSLI0 {K : Nat → Nat} {n : Nat} : aGho (fF K n) fa_T K n (fJX K n) ag_ruSLI0 := by
  refine aGho_of ⟨rfl, rfl⟩ ?_
  intro p σ ρ hH hX hA hM
  have hG := aAG_of hA.1 (fun i e v he hv => (hA.2 i e v he hv).1)
  clear hA
  obtain ⟨v0, v1, v2, v3, v4, rfl, g0, g1, g2, g3, g4⟩ := fA_5 hG
  clear hG
  obtain ⟨x0, rfl, b0, d0⟩ := aG_int g0
  dsimp only at b0 d0
  obtain ⟨x1, rfl, b1, d1⟩ := aG_int g1
  dsimp only at b1 d1
  obtain ⟨x2, rfl, b2, d2⟩ := aG_int g2
  dsimp only at b2 d2
  obtain ⟨x3, rfl, b3, d3⟩ := aG_int g3
  dsimp only at b3 d3
  obtain ⟨x4, rfl, b4, d4⟩ := aG_int g4
  dsimp only at b4 d4
  obtain ⟨m1, m2, m3, m4⟩ := hM
  have f0 : fB K n p 23 [fI x0, fI x1, fI x3, fI x4] σ := by
    obtain ⟨w, e6, e7⟩ := m4 (372, [0, 1, 3, 4]) (List.mem_of_getElem? (i := 0) rfl)
    obtain rfl : [fI x0, fI x1, fI x3, fI x4] = w := Option.some.inj (show some [fI x0, fI x1, fI x3, fI x4] = some w from e6)
    exact (fF_b (r := 372) (by decide) rfl).mp e7
  clear m1 m2 m3 m4
  have q0 : fB K n p 24 [fI x0, fI x1, fI x2, fI x3, fI x4] σ := by
    obtain ⟨s, i, a, m, e, h⟩ := f0
    cases e
    exact ⟨x0, x1, x2, x3, x4, rfl, by omega⟩
  refine ⟨p, fun _ => rfl, ⟨fun q h => (by cases h), fun q h => (by cases h), ?_, ?_⟩, [], List.mem_cons_self, fun f h => (by cases h)⟩
  · exact fun f h => by cases h
  · exact (aAllc ⟨_, rfl, (fF_b (r := 389) (by decide) rfl).mpr q0⟩ (fun f h => by cases h))
theorem rw_ruSLB {K : Nat → Nat} {n : Nat} : aGho (fF K n) fa_T K n (fJX K n) ag_ruSLB := by
  refine aGho_of ⟨rfl, rfl⟩ ?_
  intro p σ ρ hH hX hA hM
  have hG := aAG_of hA.1 (fun i e v he hv => (hA.2 i e v he hv).1)
  clear hA
  obtain ⟨v0, v1, v2, v3, v4, v5, rfl, g0, g1, g2, g3, g4, g5⟩ := fA_6 hG
  clear hG
  obtain ⟨x0, rfl, b0, d0⟩ := aG_int g0
  dsimp only at b0 d0
  obtain ⟨x1, rfl, b1, d1⟩ := aG_int g1
  dsimp only at b1 d1
  obtain ⟨x2, rfl, b2, d2⟩ := aG_int g2
  dsimp only at b2 d2
  obtain ⟨x3, rfl, b3, d3⟩ := aG_int g3
  dsimp only at b3 d3
  obtain ⟨x4, rfl, b4, d4⟩ := aG_int g4
  dsimp only at b4 d4
  obtain ⟨x5, rfl, b5, d5⟩ := aG_int g5
  dsimp only at b5 d5
  obtain ⟨m1, m2, m3, m4⟩ := hM
  have l0 : 0 ≤ (1 * x5.toInt + (-1 * x2.toInt + 0)) + 0 := by
    obtain ⟨z, e6, e7⟩ := m3 ([(5, 1), (2, -1)], 0) (List.mem_of_getElem? (i := 0) rfl)
    obtain rfl : (1 * x5.toInt + (-1 * x2.toInt + 0)) = z := Option.some.inj (show some (1 * x5.toInt + (-1 * x2.toInt + 0)) = some z from e6)
    exact e7
  have f0 : fB K n p 24 [fI x0, fI x1, fI x2, fI x3, fI x4] σ := by
    obtain ⟨w, e6, e7⟩ := m4 (389, [0, 1, 2, 3, 4]) (List.mem_of_getElem? (i := 0) rfl)
    obtain rfl : [fI x0, fI x1, fI x2, fI x3, fI x4] = w := Option.some.inj (show some [fI x0, fI x1, fI x2, fI x3, fI x4] = some w from e6)
    exact (fF_b (r := 389) (by decide) rfl).mp e7
  have f1 : fB K n p 19 [fI x0, fI x1, fI x5] σ := by
    obtain ⟨w, e6, e7⟩ := m4 (307, [0, 1, 5]) (List.mem_of_getElem? (i := 1) rfl)
    obtain rfl : [fI x0, fI x1, fI x5] = w := Option.some.inj (show some [fI x0, fI x1, fI x5] = some w from e6)
    exact (fF_b (r := 307) (by decide) rfl).mp e7
  clear m1 m2 m3 m4
  have r0 : 0 ≤ (1 * x3.toInt + (-1 * x4.toInt + 0)) + 26 := by
    obtain ⟨s, i, k, a, m, e, h⟩ := f0
    cases e
    obtain ⟨s, i, v, e, h4⟩ := f1
    cases e
    have h5 := fTab b0 d0 b1 d1
    omega
  refine ⟨p, fun _ => rfl, ⟨fun q h => (by cases h), fun q h => (by cases h), ?_, ?_⟩, [], List.mem_cons_self, fun f h => (by cases h)⟩
  · exact (aAllc ⟨_, rfl, r0⟩ (fun f h => by cases h))
  · exact (fun f h => by cases h)
theorem rw_ruSLIn {K : Nat → Nat} {n : Nat} : aGho (fF K n) fa_T K n (fJX K n) ag_ruSLIn := by
  refine aGho_of ⟨rfl, rfl⟩ ?_
  intro p σ ρ hH hX hA hM
  have hG := aAG_of hA.1 (fun i e v he hv => (hA.2 i e v he hv).1)
  clear hA
  obtain ⟨v0, v1, v2, v3, v4, v5, v6, rfl, g0, g1, g2, g3, g4, g5, g6⟩ := fA_7 hG
  clear hG
  obtain ⟨x0, rfl, b0, d0⟩ := aG_int g0
  dsimp only at b0 d0
  obtain ⟨x1, rfl, b1, d1⟩ := aG_int g1
  dsimp only at b1 d1
  obtain ⟨x2, rfl, b2, d2⟩ := aG_int g2
  dsimp only at b2 d2
  obtain ⟨x3, rfl, b3, d3⟩ := aG_int g3
  dsimp only at b3 d3
  obtain ⟨x4, rfl, b4, d4⟩ := aG_int g4
  dsimp only at b4 d4
  obtain ⟨x5, rfl, b5, d5⟩ := aG_int g5
  dsimp only at b5 d5
  obtain ⟨x6, rfl, b6, d6⟩ := aG_int g6
  dsimp only at b6 d6
  obtain ⟨m1, m2, m3, m4⟩ := hM
  have l0 : 0 ≤ (1 * x5.toInt + (-1 * x2.toInt + 0)) + -1 := by
    obtain ⟨z, e6, e7⟩ := m3 ([(5, 1), (2, -1)], -1) (List.mem_of_getElem? (i := 0) rfl)
    obtain rfl : (1 * x5.toInt + (-1 * x2.toInt + 0)) = z := Option.some.inj (show some (1 * x5.toInt + (-1 * x2.toInt + 0)) = some z from e6)
    exact e7
  have l1 : 0 ≤ (-1 * x5.toInt + (1 * x2.toInt + 0)) + 1 := by
    obtain ⟨z, e6, e7⟩ := m3 ([(5, -1), (2, 1)], 1) (List.mem_of_getElem? (i := 1) rfl)
    obtain rfl : (-1 * x5.toInt + (1 * x2.toInt + 0)) = z := Option.some.inj (show some (-1 * x5.toInt + (1 * x2.toInt + 0)) = some z from e6)
    exact e7
  have l2 : 0 ≤ (1 * x4.toInt + (-1 * x6.toInt + 0)) + 1 := by
    obtain ⟨z, e6, e7⟩ := m3 ([(4, 1), (6, -1)], 1) (List.mem_of_getElem? (i := 2) rfl)
    obtain rfl : (1 * x4.toInt + (-1 * x6.toInt + 0)) = z := Option.some.inj (show some (1 * x4.toInt + (-1 * x6.toInt + 0)) = some z from e6)
    exact e7
  have f0 : fB K n p 24 [fI x0, fI x1, fI x2, fI x3, fI x4] σ := by
    obtain ⟨w, e6, e7⟩ := m4 (389, [0, 1, 2, 3, 4]) (List.mem_of_getElem? (i := 0) rfl)
    obtain rfl : [fI x0, fI x1, fI x2, fI x3, fI x4] = w := Option.some.inj (show some [fI x0, fI x1, fI x2, fI x3, fI x4] = some w from e6)
    exact (fF_b (r := 389) (by decide) rfl).mp e7
  clear m1 m2 m3 m4
  have q0 : fB K n p 24 [fI x0, fI x1, fI x5, fI x3, fI x6] σ := by
    obtain ⟨s, i, k, a, m, e, h⟩ := f0
    cases e
    exact ⟨x0, x1, x5, x3, x6, rfl, by omega⟩
  refine ⟨p, fun _ => rfl, ⟨fun q h => (by cases h), fun q h => (by cases h), ?_, ?_⟩, [], List.mem_cons_self, fun f h => (by cases h)⟩
  · exact fun f h => by cases h
  · exact (aAllc ⟨_, rfl, (fF_b (r := 389) (by decide) rfl).mpr q0⟩ (fun f h => by cases h))
theorem rw_ruSLCa {K : Nat → Nat} {n : Nat} : aGho (fF K n) fa_T K n (fJX K n) ag_ruSLCa := by
  refine aGho_of ⟨rfl, rfl⟩ ?_
  intro p σ ρ hH hX hA hM
  have hG := aAG_of hA.1 (fun i e v he hv => (hA.2 i e v he hv).1)
  clear hA
  obtain ⟨v0, v1, v2, v3, v4, v5, v6, rfl, g0, g1, g2, g3, g4, g5, g6⟩ := fA_7 hG
  clear hG
  obtain ⟨x0, rfl, b0, d0⟩ := aG_int g0
  dsimp only at b0 d0
  obtain ⟨x1, rfl, b1, d1⟩ := aG_int g1
  dsimp only at b1 d1
  obtain ⟨x2, rfl, b2, d2⟩ := aG_int g2
  dsimp only at b2 d2
  obtain ⟨x3, rfl, b3, d3⟩ := aG_int g3
  dsimp only at b3 d3
  obtain ⟨x4, rfl, b4, d4⟩ := aG_int g4
  dsimp only at b4 d4
  obtain ⟨x5, rfl, b5, d5⟩ := aG_int g5
  dsimp only at b5 d5
  obtain ⟨x6, rfl, b6, d6⟩ := aG_int g6
  dsimp only at b6 d6
  obtain ⟨m1, m2, m3, m4⟩ := hM
  have l0 : 0 ≤ (1 * x5.toInt + (-1 * x1.toInt + 0)) + -1 := by
    obtain ⟨z, e6, e7⟩ := m3 ([(5, 1), (1, -1)], -1) (List.mem_of_getElem? (i := 0) rfl)
    obtain rfl : (1 * x5.toInt + (-1 * x1.toInt + 0)) = z := Option.some.inj (show some (1 * x5.toInt + (-1 * x1.toInt + 0)) = some z from e6)
    exact e7
  have l1 : 0 ≤ (-1 * x5.toInt + (1 * x1.toInt + 0)) + 1 := by
    obtain ⟨z, e6, e7⟩ := m3 ([(5, -1), (1, 1)], 1) (List.mem_of_getElem? (i := 1) rfl)
    obtain rfl : (-1 * x5.toInt + (1 * x1.toInt + 0)) = z := Option.some.inj (show some (-1 * x5.toInt + (1 * x1.toInt + 0)) = some z from e6)
    exact e7
  have f0 : fB K n p 24 [fI x0, fI x1, fI x2, fI x3, fI x4] σ := by
    obtain ⟨w, e6, e7⟩ := m4 (389, [0, 1, 2, 3, 4]) (List.mem_of_getElem? (i := 0) rfl)
    obtain rfl : [fI x0, fI x1, fI x2, fI x3, fI x4] = w := Option.some.inj (show some [fI x0, fI x1, fI x2, fI x3, fI x4] = some w from e6)
    exact (fF_b (r := 389) (by decide) rfl).mp e7
  have f1 : fB K n p 7 [fI x0, fI x1, fI x2, fI x6] σ := by
    obtain ⟨w, e6, e7⟩ := m4 (116, [0, 1, 2, 6]) (List.mem_of_getElem? (i := 1) rfl)
    obtain rfl : [fI x0, fI x1, fI x2, fI x6] = w := Option.some.inj (show some [fI x0, fI x1, fI x2, fI x6] = some w from e6)
    exact (fF_b (r := 116) (by decide) rfl).mp e7
  clear m1 m2 m3 m4
  have q0 : fB K n p 23 [fI x0, fI x5, fI x3, fI x4] σ := by
    obtain ⟨s, i, k, a, m, e, h⟩ := f0
    cases e
    obtain ⟨s, i, k, t, e, h1, h2, h3⟩ := f1
    cases e
    have h5 := fTab b0 d0 b1 d1
    refine ⟨x0, x5, x3, x4, rfl, ?_⟩
    rw [show x5.toInt = x1.toInt + 1 by omega]
    omega
  refine ⟨p, fun _ => rfl, ⟨fun q h => (by cases h), fun q h => (by cases h), ?_, ?_⟩, [], List.mem_cons_self, fun f h => (by cases h)⟩
  · exact fun f h => by cases h
  · exact (aAllc ⟨_, rfl, (fF_b (r := 372) (by decide) rfl).mpr q0⟩ (fun f h => by cases h))
theorem rw_ruSLCb {K : Nat → Nat} {n : Nat} : aGho (fF K n) fa_T K n (fJX K n) ag_ruSLCb := by
  refine aGho_of ⟨rfl, rfl⟩ ?_
  intro p σ ρ hH hX hA hM
  have hG := aAG_of hA.1 (fun i e v he hv => (hA.2 i e v he hv).1)
  clear hA
  obtain ⟨v0, v1, v2, v3, v4, v5, v6, v7, rfl, g0, g1, g2, g3, g4, g5, g6, g7⟩ := fA_8 hG
  clear hG
  obtain ⟨x0, rfl, b0, d0⟩ := aG_int g0
  dsimp only at b0 d0
  obtain ⟨x1, rfl, b1, d1⟩ := aG_int g1
  dsimp only at b1 d1
  obtain ⟨x2, rfl, b2, d2⟩ := aG_int g2
  dsimp only at b2 d2
  obtain ⟨x3, rfl, b3, d3⟩ := aG_int g3
  dsimp only at b3 d3
  obtain ⟨x4, rfl, b4, d4⟩ := aG_int g4
  dsimp only at b4 d4
  obtain ⟨x5, rfl, b5, d5⟩ := aG_int g5
  dsimp only at b5 d5
  obtain ⟨x6, rfl, b6, d6⟩ := aG_int g6
  dsimp only at b6 d6
  obtain ⟨x7, rfl, b7, d7⟩ := aG_int g7
  dsimp only at b7 d7
  obtain ⟨m1, m2, m3, m4⟩ := hM
  have l0 : 0 ≤ (1 * x5.toInt + (-1 * x1.toInt + 0)) + -1 := by
    obtain ⟨z, e6, e7⟩ := m3 ([(5, 1), (1, -1)], -1) (List.mem_of_getElem? (i := 0) rfl)
    obtain rfl : (1 * x5.toInt + (-1 * x1.toInt + 0)) = z := Option.some.inj (show some (1 * x5.toInt + (-1 * x1.toInt + 0)) = some z from e6)
    exact e7
  have l1 : 0 ≤ (-1 * x5.toInt + (1 * x1.toInt + 0)) + 1 := by
    obtain ⟨z, e6, e7⟩ := m3 ([(5, -1), (1, 1)], 1) (List.mem_of_getElem? (i := 1) rfl)
    obtain rfl : (-1 * x5.toInt + (1 * x1.toInt + 0)) = z := Option.some.inj (show some (-1 * x5.toInt + (1 * x1.toInt + 0)) = some z from e6)
    exact e7
  have l2 : 0 ≤ (1 * x4.toInt + (-1 * x7.toInt + 0)) + 1 := by
    obtain ⟨z, e6, e7⟩ := m3 ([(4, 1), (7, -1)], 1) (List.mem_of_getElem? (i := 2) rfl)
    obtain rfl : (1 * x4.toInt + (-1 * x7.toInt + 0)) = z := Option.some.inj (show some (1 * x4.toInt + (-1 * x7.toInt + 0)) = some z from e6)
    exact e7
  have f0 : fB K n p 24 [fI x0, fI x1, fI x2, fI x3, fI x4] σ := by
    obtain ⟨w, e6, e7⟩ := m4 (389, [0, 1, 2, 3, 4]) (List.mem_of_getElem? (i := 0) rfl)
    obtain rfl : [fI x0, fI x1, fI x2, fI x3, fI x4] = w := Option.some.inj (show some [fI x0, fI x1, fI x2, fI x3, fI x4] = some w from e6)
    exact (fF_b (r := 389) (by decide) rfl).mp e7
  have f1 : fB K n p 18 [fI x0, fI x1, fI x2, fI x6] σ := by
    obtain ⟨w, e6, e7⟩ := m4 (292, [0, 1, 2, 6]) (List.mem_of_getElem? (i := 1) rfl)
    obtain rfl : [fI x0, fI x1, fI x2, fI x6] = w := Option.some.inj (show some [fI x0, fI x1, fI x2, fI x6] = some w from e6)
    exact (fF_b (r := 292) (by decide) rfl).mp e7
  clear m1 m2 m3 m4
  have q0 : fB K n p 23 [fI x0, fI x5, fI x3, fI x7] σ := by
    obtain ⟨s, i, k, a, m, e, h⟩ := f0
    cases e
    obtain ⟨s, i, k, t, e, h1, h2, h3⟩ := f1
    cases e
    have h5 := fTab b0 d0 b1 d1
    refine ⟨x0, x5, x3, x7, rfl, ?_⟩
    rw [show x5.toInt = x1.toInt + 1 by omega]
    omega
  refine ⟨p, fun _ => rfl, ⟨fun q h => (by cases h), fun q h => (by cases h), ?_, ?_⟩, [], List.mem_cons_self, fun f h => (by cases h)⟩
  · exact fun f h => by cases h
  · exact (aAllc ⟨_, rfl, (fF_b (r := 372) (by decide) rfl).mpr q0⟩ (fun f h => by cases h))
theorem rw_ruSLF {K : Nat → Nat} {n : Nat} : aGho (fF K n) fa_T K n (fJX K n) ag_ruSLF := by
  refine aGho_of ⟨rfl, rfl⟩ ?_
  intro p σ ρ hH hX hA hM
  have hG := aAG_of hA.1 (fun i e v he hv => (hA.2 i e v he hv).1)
  clear hA
  obtain ⟨v0, v1, v2, v3, rfl, g0, g1, g2, g3⟩ := fA_4 hG
  clear hG
  obtain ⟨x0, rfl, b0, d0⟩ := aG_int g0
  dsimp only at b0 d0
  obtain ⟨x1, rfl, b1, d1⟩ := aG_int g1
  dsimp only at b1 d1
  obtain ⟨x2, rfl, b2, d2⟩ := aG_int g2
  dsimp only at b2 d2
  obtain ⟨x3, rfl, b3, d3⟩ := aG_int g3
  dsimp only at b3 d3
  obtain ⟨m1, m2, m3, m4⟩ := hM
  have f0 : fB K n p 23 [fI x0, fI x1, fI x2, fI x3] σ := by
    obtain ⟨w, e6, e7⟩ := m4 (372, [0, 1, 2, 3]) (List.mem_of_getElem? (i := 0) rfl)
    obtain rfl : [fI x0, fI x1, fI x2, fI x3] = w := Option.some.inj (show some [fI x0, fI x1, fI x2, fI x3] = some w from e6)
    exact (fF_b (r := 372) (by decide) rfl).mp e7
  clear m1 m2 m3 m4
  have r0 : 0 ≤ (1 * x2.toInt + (-1 * x3.toInt + 0)) + 27 := by
    obtain ⟨s, i, a, m, e, h⟩ := f0
    cases e
    by_cases h0 : x1.toInt = 0
    · have h5 := fTab (i := 0) b0 d0 (by omega) (by omega)
      have h6 : fSm x0.toInt 0 = 0 := by unfold fSm; simp
      rw [h0, h6] at h
      omega
    · have h5 := fTab (i := x1.toInt - 1) b0 d0 (by omega) (by omega)
      rw [show x1.toInt - 1 + 1 = x1.toInt by omega] at h5
      omega
  refine ⟨p, fun _ => rfl, ⟨fun q h => (by cases h), fun q h => (by cases h), ?_, ?_⟩, [], List.mem_cons_self, fun f h => (by cases h)⟩
  · exact (aAllc ⟨_, rfl, r0⟩ (fun f h => by cases h))
  · exact (fun f h => by cases h)
theorem rw_ruSQ {K : Nat → Nat} {n : Nat} : aGho (fF K n) fa_T K n (fJX K n) ag_ruSQ := by
  refine aGho_of ⟨rfl, rfl⟩ ?_
  intro p σ ρ hH hX hA hM
  have hG := aAG_of hA.1 (fun i e v he hv => (hA.2 i e v he hv).1)
  clear hA
  obtain ⟨v0, rfl, g0⟩ := fA_1 hG
  clear hG
  obtain ⟨x0, rfl, b0, d0⟩ := aG_int g0
  dsimp only at b0 d0
  obtain ⟨m1, m2, m3, m4⟩ := hM
  have l0 : 0 ≤ (1 * x0.toInt + 0) + 0 := by
    obtain ⟨z, e6, e7⟩ := m3 ([(0, 1)], 0) (List.mem_of_getElem? (i := 0) rfl)
    obtain rfl : (1 * x0.toInt + 0) = z := Option.some.inj (show some (1 * x0.toInt + 0) = some z from e6)
    exact e7
  have l1 : 0 ≤ (-1 * x0.toInt + 0) + 63 := by
    obtain ⟨z, e6, e7⟩ := m3 ([(0, -1)], 63) (List.mem_of_getElem? (i := 1) rfl)
    obtain rfl : (-1 * x0.toInt + 0) = z := Option.some.inj (show some (-1 * x0.toInt + 0) = some z from e6)
    exact e7
  clear m1 m2 m3 m4
  have r0 : 0 ≤ (1 * x0.toInt + 0) + 0 := by
    omega
  have r1 : 0 ≤ (-1 * x0.toInt + 0) + 63 := by
    omega
  refine ⟨p, fun _ => rfl, ⟨fun q h => (by cases h), fun q h => (by cases h), ?_, ?_⟩, [], List.mem_cons_self, fun f h => (by cases h)⟩
  · exact (aAllc ⟨_, rfl, r0⟩ (aAllc ⟨_, rfl, r1⟩ (fun f h => by cases h)))
  · exact (fun f h => by cases h)
theorem rw_ruN7 {K : Nat → Nat} {n : Nat} : aGho (fF K n) fa_T K n (fJX K n) ag_ruN7 := by
  refine aGho_of ⟨rfl, rfl⟩ ?_
  intro p σ ρ hH hX hA hM
  have hG := aAG_of hA.1 (fun i e v he hv => (hA.2 i e v he hv).1)
  clear hA
  obtain ⟨v0, v1, rfl, g0, g1⟩ := fA_2 hG
  clear hG
  obtain ⟨x0, rfl, b0, d0⟩ := aG_int g0
  dsimp only at b0 d0
  obtain ⟨x1, rfl, b1, d1⟩ := aG_int g1
  dsimp only at b1 d1
  obtain ⟨m1, m2, m3, m4⟩ := hM
  have l0 : 0 ≤ (1 * x0.toInt + (-1 * x1.toInt + 0)) + 7 := by
    obtain ⟨z, e6, e7⟩ := m3 ([(0, 1), (1, -1)], 7) (List.mem_of_getElem? (i := 0) rfl)
    obtain rfl : (1 * x0.toInt + (-1 * x1.toInt + 0)) = z := Option.some.inj (show some (1 * x0.toInt + (-1 * x1.toInt + 0)) = some z from e6)
    exact e7
  clear m1 m2 m3 m4
  have r0 : 0 ≤ (1 * x0.toInt + (-1 * x1.toInt + 0)) + 7 := by
    omega
  refine ⟨p, fun _ => rfl, ⟨fun q h => (by cases h), fun q h => (by cases h), ?_, ?_⟩, [], List.mem_cons_self, fun f h => (by cases h)⟩
  · exact (aAllc ⟨_, rfl, r0⟩ (fun f h => by cases h))
  · exact (fun f h => by cases h)
theorem rw_ruN8 {K : Nat → Nat} {n : Nat} : aGho (fF K n) fa_T K n (fJX K n) ag_ruN8 := by
  refine aGho_of ⟨rfl, rfl⟩ ?_
  intro p σ ρ hH hX hA hM
  have hG := aAG_of hA.1 (fun i e v he hv => (hA.2 i e v he hv).1)
  clear hA
  obtain ⟨v0, v1, rfl, g0, g1⟩ := fA_2 hG
  clear hG
  obtain ⟨x0, rfl, b0, d0⟩ := aG_int g0
  dsimp only at b0 d0
  obtain ⟨x1, rfl, b1, d1⟩ := aG_int g1
  dsimp only at b1 d1
  obtain ⟨m1, m2, m3, m4⟩ := hM
  have l0 : 0 ≤ (1 * x0.toInt + (-1 * x1.toInt + 0)) + 8 := by
    obtain ⟨z, e6, e7⟩ := m3 ([(0, 1), (1, -1)], 8) (List.mem_of_getElem? (i := 0) rfl)
    obtain rfl : (1 * x0.toInt + (-1 * x1.toInt + 0)) = z := Option.some.inj (show some (1 * x0.toInt + (-1 * x1.toInt + 0)) = some z from e6)
    exact e7
  clear m1 m2 m3 m4
  have r0 : 0 ≤ (1 * x0.toInt + (-1 * x1.toInt + 0)) + 8 := by
    omega
  refine ⟨p, fun _ => rfl, ⟨fun q h => (by cases h), fun q h => (by cases h), ?_, ?_⟩, [], List.mem_cons_self, fun f h => (by cases h)⟩
  · exact (aAllc ⟨_, rfl, r0⟩ (fun f h => by cases h))
  · exact (fun f h => by cases h)
theorem rw_ruN13 {K : Nat → Nat} {n : Nat} : aGho (fF K n) fa_T K n (fJX K n) ag_ruN13 := by
  refine aGho_of ⟨rfl, rfl⟩ ?_
  intro p σ ρ hH hX hA hM
  have hG := aAG_of hA.1 (fun i e v he hv => (hA.2 i e v he hv).1)
  clear hA
  obtain ⟨v0, v1, rfl, g0, g1⟩ := fA_2 hG
  clear hG
  obtain ⟨x0, rfl, b0, d0⟩ := aG_int g0
  dsimp only at b0 d0
  obtain ⟨x1, rfl, b1, d1⟩ := aG_int g1
  dsimp only at b1 d1
  obtain ⟨m1, m2, m3, m4⟩ := hM
  have l0 : 0 ≤ (1 * x0.toInt + (-1 * x1.toInt + 0)) + 13 := by
    obtain ⟨z, e6, e7⟩ := m3 ([(0, 1), (1, -1)], 13) (List.mem_of_getElem? (i := 0) rfl)
    obtain rfl : (1 * x0.toInt + (-1 * x1.toInt + 0)) = z := Option.some.inj (show some (1 * x0.toInt + (-1 * x1.toInt + 0)) = some z from e6)
    exact e7
  clear m1 m2 m3 m4
  have r0 : 0 ≤ (1 * x0.toInt + (-1 * x1.toInt + 0)) + 13 := by
    omega
  refine ⟨p, fun _ => rfl, ⟨fun q h => (by cases h), fun q h => (by cases h), ?_, ?_⟩, [], List.mem_cons_self, fun f h => (by cases h)⟩
  · exact (aAllc ⟨_, rfl, r0⟩ (fun f h => by cases h))
  · exact (fun f h => by cases h)
theorem rw_ruHOP {K : Nat → Nat} {n : Nat} : aGho (fF K n) fa_T K n (fJX K n) ag_ruHOP := by
  refine aGho_of ⟨rfl, rfl⟩ ?_
  intro p σ ρ hH hX hA hM
  have hG := aAG_of hA.1 (fun i e v he hv => (hA.2 i e v he hv).1)
  clear hA
  obtain ⟨v0, v1, v2, v3, rfl, g0, g1, g2, g3⟩ := fA_4 hG
  clear hG
  obtain ⟨x0, rfl, b0, d0⟩ := fG_ref (by decide) g0
  obtain ⟨x1, rfl, b1, d1⟩ := aG_int g1
  dsimp only at b1 d1
  obtain ⟨x2, rfl, b2, d2⟩ := aG_int g2
  dsimp only at b2 d2
  obtain ⟨x3, rfl, b3, d3⟩ := aG_int g3
  dsimp only at b3 d3
  obtain ⟨m1, m2, m3, m4⟩ := hM
  obtain ⟨a, mc0, ty0, gc0, ic0, e1, sc0, jc0, e4, e5⟩ := m2 (0, ([(2, 1)], 0), 3) (List.mem_of_getElem? (i := 0) rfl)
  obtain rfl : x0 = a := Sum.inl.inj (Option.some.inj (Sum.inr.inj (Sum.inr.inj (Option.some.inj (show some (fR x0) = some _ from e1)))))
  obtain ⟨gc0, rfl⟩ : ∃ g, gc0 = .inl g := by
    rcases gc0 with g | g
    · exact ⟨g, rfl⟩
    · exact absurd (show some (fI x3) = some (.inr (.inl (g ic0))) from e5) (fun h => by cases h)
  have sc0 : σ x0 = .inl (ty0, mc0, .inl gc0) := sc0
  have ec0 : x3 = gc0 ic0 := Sum.inl.inj (Option.some.inj (show some (fI x3) = some _ from e5))
  have kc0 : (ic0 : Int) = (1 * x2.toInt + 0) + 0 := by
    obtain ⟨z, e6, e7⟩ := e4
    obtain rfl : (1 * x2.toInt + 0) = z := Option.some.inj (show some (1 * x2.toInt + 0) = some z from e6)
    exact e7
  clear e1 e4 e5
  have l0 : 0 ≤ (1 * x2.toInt + (-8 * x1.toInt + 0)) + 0 := by
    obtain ⟨z, e6, e7⟩ := m3 ([(2, 1), (1, -8)], 0) (List.mem_of_getElem? (i := 0) rfl)
    obtain rfl : (1 * x2.toInt + (-8 * x1.toInt + 0)) = z := Option.some.inj (show some (1 * x2.toInt + (-8 * x1.toInt + 0)) = some z from e6)
    exact e7
  have l1 : 0 ≤ (-1 * x2.toInt + (8 * x1.toInt + 0)) + 7 := by
    obtain ⟨z, e6, e7⟩ := m3 ([(2, -1), (1, 8)], 7) (List.mem_of_getElem? (i := 1) rfl)
    obtain rfl : (-1 * x2.toInt + (8 * x1.toInt + 0)) = z := Option.some.inj (show some (-1 * x2.toInt + (8 * x1.toInt + 0)) = some z from e6)
    exact e7
  clear m1 m2 m3 m4
  have q0 : fB K n p 37 [fI x1, fI x2, fI x3] σ := by
    obtain ⟨g, h1, h2⟩ := hX.2.1 x0 b0 d0
    rw [h1] at sc0
    cases sc0
    refine ⟨x1, x2, x3, rfl, ?_⟩
    have h3 := h2 x1.toInt.toNat (ic0 - 8 * x1.toInt.toNat) (by omega) (by omega)
    rw [show 8 * x1.toInt.toNat + (ic0 - 8 * x1.toInt.toNat) = ic0 by omega, ← ec0] at h3
    have h4 := fHop0 ⟨x1.toInt.toNat, by omega⟩ ⟨ic0 - 8 * x1.toInt.toNat, by omega⟩
    dsimp only at h4
    rw [← h3, show ((x1.toInt.toNat : Nat) : Int) = x1.toInt by omega] at h4
    rcases h4 with h4 | h4
    · omega
    · exact h4
  refine ⟨p, fun _ => rfl, ⟨fun q h => (by cases h), fun q h => (by cases h), ?_, ?_⟩, [], List.mem_cons_self, fun f h => (by cases h)⟩
  · exact fun f h => by cases h
  · exact (aAllc ⟨_, rfl, (fF_b (r := 595) (by decide) rfl).mpr q0⟩ (fun f h => by cases h))
theorem rw_ruKST {K : Nat → Nat} {n : Nat} : aGho (fF K n) fa_T K n (fJX K n) ag_ruKST := by
  refine aGho_of ⟨rfl, rfl⟩ ?_
  intro p σ ρ hH hX hA hM
  have hG := aAG_of hA.1 (fun i e v he hv => (hA.2 i e v he hv).1)
  clear hA
  obtain ⟨v0, v1, v2, v3, v4, rfl, g0, g1, g2, g3, g4⟩ := fA_5 hG
  clear hG
  obtain ⟨x0, rfl, b0, d0⟩ := aG_int g0
  dsimp only at b0 d0
  obtain ⟨x1, rfl, b1, d1⟩ := aG_int g1
  dsimp only at b1 d1
  obtain ⟨x2, rfl, b2, d2⟩ := aG_int g2
  dsimp only at b2 d2
  obtain ⟨x3, rfl, b3, d3⟩ := aG_int g3
  dsimp only at b3 d3
  obtain ⟨x4, rfl, b4, d4⟩ := aG_int g4
  dsimp only at b4 d4
  obtain ⟨m1, m2, m3, m4⟩ := hM
  have l0 : 0 ≤ (1 * x4.toInt + (-1 * x0.toInt + (-1 * x3.toInt + 0))) + 0 := by
    obtain ⟨z, e6, e7⟩ := m3 ([(4, 1), (0, -1), (3, -1)], 0) (List.mem_of_getElem? (i := 0) rfl)
    obtain rfl : (1 * x4.toInt + (-1 * x0.toInt + (-1 * x3.toInt + 0))) = z := Option.some.inj (show some (1 * x4.toInt + (-1 * x0.toInt + (-1 * x3.toInt + 0))) = some z from e6)
    exact e7
  have l1 : 0 ≤ (-1 * x4.toInt + (1 * x0.toInt + (1 * x3.toInt + 0))) + 0 := by
    obtain ⟨z, e6, e7⟩ := m3 ([(4, -1), (0, 1), (3, 1)], 0) (List.mem_of_getElem? (i := 1) rfl)
    obtain rfl : (-1 * x4.toInt + (1 * x0.toInt + (1 * x3.toInt + 0))) = z := Option.some.inj (show some (-1 * x4.toInt + (1 * x0.toInt + (1 * x3.toInt + 0))) = some z from e6)
    exact e7
  have f0 : fB K n p 19 [fI x0, fI x1, fI x2] σ := by
    obtain ⟨w, e6, e7⟩ := m4 (307, [0, 1, 2]) (List.mem_of_getElem? (i := 0) rfl)
    obtain rfl : [fI x0, fI x1, fI x2] = w := Option.some.inj (show some [fI x0, fI x1, fI x2] = some w from e6)
    exact (fF_b (r := 307) (by decide) rfl).mp e7
  have f1 : fB K n p 22 [fI x1, fI x3] σ := by
    obtain ⟨w, e6, e7⟩ := m4 (354, [1, 3]) (List.mem_of_getElem? (i := 1) rfl)
    obtain rfl : [fI x1, fI x3] = w := Option.some.inj (show some [fI x1, fI x3] = some w from e6)
    exact (fF_b (r := 354) (by decide) rfl).mp e7
  clear m1 m2 m3 m4
  have r0 : 0 ≤ (1 * x4.toInt + 0) + 0 := by
    obtain ⟨s, i, v, e, h4⟩ := f0
    cases e
    obtain ⟨i, v, e, h5⟩ := f1
    cases e
    have h6 := fRay b0 d0 b1 d1 (k := 1) (by omega) (by omega)
    rw [Int.one_mul] at h6
    have h7 := fStn b1 d1
    omega
  have r1 : 0 ≤ (-1 * x4.toInt + 0) + 63 := by
    obtain ⟨s, i, v, e, h4⟩ := f0
    cases e
    obtain ⟨i, v, e, h5⟩ := f1
    cases e
    have h6 := fRay b0 d0 b1 d1 (k := 1) (by omega) (by omega)
    rw [Int.one_mul] at h6
    have h7 := fStn b1 d1
    omega
  have q0 : fB K n p 37 [fI x0, fI x1, fI x4] σ := by
    obtain ⟨s, i, v, e, h4⟩ := f0
    cases e
    obtain ⟨i, v, e, h5⟩ := f1
    cases e
    have h6 := fRay b0 d0 b1 d1 (k := 1) (by omega) (by omega)
    rw [Int.one_mul] at h6
    have h7 := fStn b1 d1
    exact ⟨x0, x1, x4, rfl, by omega, by omega, by omega⟩
  refine ⟨p, fun _ => rfl, ⟨fun q h => (by cases h), fun q h => (by cases h), ?_, ?_⟩, [], List.mem_cons_self, fun f h => (by cases h)⟩
  · exact (aAllc ⟨_, rfl, r0⟩ (aAllc ⟨_, rfl, r1⟩ (fun f h => by cases h)))
  · exact (aAllc ⟨_, rfl, (fF_b (r := 595) (by decide) rfl).mpr q0⟩ (fun f h => by cases h))
theorem rw_ruCEL {K : Nat → Nat} {n : Nat} : aGho (fF K n) fa_T K n (fJX K n) ag_ruCEL := by
  refine aGho_of ⟨rfl, rfl⟩ ?_
  intro p σ ρ hH hX hA hM
  have hG := aAG_of hA.1 (fun i e v he hv => (hA.2 i e v he hv).1)
  clear hA
  obtain ⟨v0, v1, v2, v3, rfl, g0, g1, g2, g3⟩ := fA_4 hG
  clear hG
  obtain ⟨x0, rfl, b0, d0⟩ := fG_ref (by decide) g0
  obtain ⟨x1, rfl, b1, d1⟩ := aG_int g1
  dsimp only at b1 d1
  obtain ⟨x2, rfl, b2, d2⟩ := aG_int g2
  dsimp only at b2 d2
  obtain ⟨x3, rfl, b3, d3⟩ := fG_ref (by decide) g3
  obtain ⟨m1, m2, m3, m4⟩ := hM
  obtain ⟨a0, c0, fs0, w0, e1, s0, t0, e4⟩ := m1 (0, 0, 3) (List.mem_of_getElem? (i := 0) rfl)
  obtain rfl : x0 = a0 := Sum.inl.inj (Option.some.inj (Sum.inr.inj (Sum.inr.inj (Option.some.inj (show some (fR x0) = some _ from e1)))))
  obtain rfl : fR x3 = w0 := Option.some.inj (show some (fR x3) = some _ from e4)
  clear e1 e4
  obtain ⟨a, mc0, ty0, gc0, ic0, e1, sc0, jc0, e4, e5⟩ := m2 (3, ([(1, 1)], 0), 2) (List.mem_of_getElem? (i := 0) rfl)
  obtain rfl : x3 = a := Sum.inl.inj (Option.some.inj (Sum.inr.inj (Sum.inr.inj (Option.some.inj (show some (fR x3) = some _ from e1)))))
  obtain ⟨gc0, rfl⟩ : ∃ g, gc0 = .inl g := by
    rcases gc0 with g | g
    · exact ⟨g, rfl⟩
    · exact absurd (show some (fI x2) = some (.inr (.inl (g ic0))) from e5) (fun h => by cases h)
  have sc0 : σ x3 = .inl (ty0, mc0, .inl gc0) := sc0
  have ec0 : x2 = gc0 ic0 := Sum.inl.inj (Option.some.inj (show some (fI x2) = some _ from e5))
  have kc0 : (ic0 : Int) = (1 * x1.toInt + 0) + 0 := by
    obtain ⟨z, e6, e7⟩ := e4
    obtain rfl : (1 * x1.toInt + 0) = z := Option.some.inj (show some (1 * x1.toInt + 0) = some z from e6)
    exact e7
  clear e1 e4 e5
  have f0 : fB K n p 1 [fR x0] σ := by
    obtain ⟨w, e6, e7⟩ := m4 (17, [0]) (List.mem_of_getElem? (i := 0) rfl)
    obtain rfl : [fR x0] = w := Option.some.inj (show some [fR x0] = some w from e6)
    exact (fF_b (r := 17) (by decide) rfl).mp e7
  clear m1 m2 m3 m4
  have q0 : fB K n p 39 [fI x1, fI x2] σ := by
    obtain ⟨a, e, h0, hg⟩ := f0
    cases e
    have hF := fAt_of h0 s0
    obtain ⟨g, hr1, hr2⟩ := hF.1 x3 t0
    rw [hr1] at sc0
    cases sc0
    refine ⟨x1, x2, rfl, ?_⟩
    rw [ec0, hr2 ic0 (by omega), fNc, show x1.toInt.toNat = ic0 by omega]
  refine ⟨p, fun _ => rfl, ⟨fun q h => (by cases h), fun q h => (by cases h), ?_, ?_⟩, [], List.mem_cons_self, fun f h => (by cases h)⟩
  · exact fun f h => by cases h
  · exact (aAllc ⟨_, rfl, (fF_b (r := 626) (by decide) rfl).mpr q0⟩ (fun f h => by cases h))
theorem rw_ruC1 {K : Nat → Nat} {n : Nat} : aGho (fF K n) fa_T K n (fJX K n) ag_ruC1 := by
  refine aGho_of ⟨rfl, rfl⟩ ?_
  intro p σ ρ hH hX hA hM
  have hG := aAG_of hA.1 (fun i e v he hv => (hA.2 i e v he hv).1)
  clear hA
  obtain ⟨v0, v1, v2, v3, rfl, g0, g1, g2, g3⟩ := fA_4 hG
  clear hG
  obtain ⟨x0, rfl, b0, d0⟩ := fG_ref (by decide) g0
  obtain ⟨x1, rfl, b1, d1⟩ := aG_int g1
  dsimp only at b1 d1
  obtain ⟨x2, rfl, b2, d2⟩ := aG_int g2
  dsimp only at b2 d2
  obtain ⟨x3, rfl, b3, d3⟩ := fG_ref (by decide) g3
  obtain ⟨m1, m2, m3, m4⟩ := hM
  obtain ⟨a0, c0, fs0, w0, e1, s0, t0, e4⟩ := m1 (0, 0, 3) (List.mem_of_getElem? (i := 0) rfl)
  obtain rfl : x0 = a0 := Sum.inl.inj (Option.some.inj (Sum.inr.inj (Sum.inr.inj (Option.some.inj (show some (fR x0) = some _ from e1)))))
  obtain rfl : fR x3 = w0 := Option.some.inj (show some (fR x3) = some _ from e4)
  clear e1 e4
  obtain ⟨a, mc0, ty0, gc0, ic0, e1, sc0, jc0, e4, e5⟩ := m2 (3, ([(1, 1)], 1), 2) (List.mem_of_getElem? (i := 0) rfl)
  obtain rfl : x3 = a := Sum.inl.inj (Option.some.inj (Sum.inr.inj (Sum.inr.inj (Option.some.inj (show some (fR x3) = some _ from e1)))))
  obtain ⟨gc0, rfl⟩ : ∃ g, gc0 = .inl g := by
    rcases gc0 with g | g
    · exact ⟨g, rfl⟩
    · exact absurd (show some (fI x2) = some (.inr (.inl (g ic0))) from e5) (fun h => by cases h)
  have sc0 : σ x3 = .inl (ty0, mc0, .inl gc0) := sc0
  have ec0 : x2 = gc0 ic0 := Sum.inl.inj (Option.some.inj (show some (fI x2) = some _ from e5))
  have kc0 : (ic0 : Int) = (1 * x1.toInt + 0) + 1 := by
    obtain ⟨z, e6, e7⟩ := e4
    obtain rfl : (1 * x1.toInt + 0) = z := Option.some.inj (show some (1 * x1.toInt + 0) = some z from e6)
    exact e7
  clear e1 e4 e5
  have f0 : fB K n p 1 [fR x0] σ := by
    obtain ⟨w, e6, e7⟩ := m4 (17, [0]) (List.mem_of_getElem? (i := 0) rfl)
    obtain rfl : [fR x0] = w := Option.some.inj (show some [fR x0] = some w from e6)
    exact (fF_b (r := 17) (by decide) rfl).mp e7
  clear m1 m2 m3 m4
  have q0 : fB K n p 40 [fI x1, fI x2] σ := by
    obtain ⟨a, e, h0, hg⟩ := f0
    cases e
    have hF := fAt_of h0 s0
    obtain ⟨g, hr1, hr2⟩ := hF.1 x3 t0
    rw [hr1] at sc0
    cases sc0
    refine ⟨x1, x2, rfl, ?_⟩
    rw [ec0, hr2 ic0 (by omega), show (x1.toInt + 1).toNat = ic0 by omega]
  refine ⟨p, fun _ => rfl, ⟨fun q h => (by cases h), fun q h => (by cases h), ?_, ?_⟩, [], List.mem_cons_self, fun f h => (by cases h)⟩
  · exact fun f h => by cases h
  · exact (aAllc ⟨_, rfl, (fF_b (r := 642) (by decide) rfl).mpr q0⟩ (fun f h => by cases h))
theorem rw_ruC2 {K : Nat → Nat} {n : Nat} : aGho (fF K n) fa_T K n (fJX K n) ag_ruC2 := by
  refine aGho_of ⟨rfl, rfl⟩ ?_
  intro p σ ρ hH hX hA hM
  have hG := aAG_of hA.1 (fun i e v he hv => (hA.2 i e v he hv).1)
  clear hA
  obtain ⟨v0, v1, v2, v3, rfl, g0, g1, g2, g3⟩ := fA_4 hG
  clear hG
  obtain ⟨x0, rfl, b0, d0⟩ := fG_ref (by decide) g0
  obtain ⟨x1, rfl, b1, d1⟩ := aG_int g1
  dsimp only at b1 d1
  obtain ⟨x2, rfl, b2, d2⟩ := aG_int g2
  dsimp only at b2 d2
  obtain ⟨x3, rfl, b3, d3⟩ := fG_ref (by decide) g3
  obtain ⟨m1, m2, m3, m4⟩ := hM
  obtain ⟨a0, c0, fs0, w0, e1, s0, t0, e4⟩ := m1 (0, 0, 3) (List.mem_of_getElem? (i := 0) rfl)
  obtain rfl : x0 = a0 := Sum.inl.inj (Option.some.inj (Sum.inr.inj (Sum.inr.inj (Option.some.inj (show some (fR x0) = some _ from e1)))))
  obtain rfl : fR x3 = w0 := Option.some.inj (show some (fR x3) = some _ from e4)
  clear e1 e4
  obtain ⟨a, mc0, ty0, gc0, ic0, e1, sc0, jc0, e4, e5⟩ := m2 (3, ([(1, 1)], 2), 2) (List.mem_of_getElem? (i := 0) rfl)
  obtain rfl : x3 = a := Sum.inl.inj (Option.some.inj (Sum.inr.inj (Sum.inr.inj (Option.some.inj (show some (fR x3) = some _ from e1)))))
  obtain ⟨gc0, rfl⟩ : ∃ g, gc0 = .inl g := by
    rcases gc0 with g | g
    · exact ⟨g, rfl⟩
    · exact absurd (show some (fI x2) = some (.inr (.inl (g ic0))) from e5) (fun h => by cases h)
  have sc0 : σ x3 = .inl (ty0, mc0, .inl gc0) := sc0
  have ec0 : x2 = gc0 ic0 := Sum.inl.inj (Option.some.inj (show some (fI x2) = some _ from e5))
  have kc0 : (ic0 : Int) = (1 * x1.toInt + 0) + 2 := by
    obtain ⟨z, e6, e7⟩ := e4
    obtain rfl : (1 * x1.toInt + 0) = z := Option.some.inj (show some (1 * x1.toInt + 0) = some z from e6)
    exact e7
  clear e1 e4 e5
  have f0 : fB K n p 1 [fR x0] σ := by
    obtain ⟨w, e6, e7⟩ := m4 (17, [0]) (List.mem_of_getElem? (i := 0) rfl)
    obtain rfl : [fR x0] = w := Option.some.inj (show some [fR x0] = some w from e6)
    exact (fF_b (r := 17) (by decide) rfl).mp e7
  clear m1 m2 m3 m4
  have q0 : fB K n p 41 [fI x1, fI x2] σ := by
    obtain ⟨a, e, h0, hg⟩ := f0
    cases e
    have hF := fAt_of h0 s0
    obtain ⟨g, hr1, hr2⟩ := hF.1 x3 t0
    rw [hr1] at sc0
    cases sc0
    refine ⟨x1, x2, rfl, ?_⟩
    rw [ec0, hr2 ic0 (by omega), show (x1.toInt + 2).toNat = ic0 by omega]
  refine ⟨p, fun _ => rfl, ⟨fun q h => (by cases h), fun q h => (by cases h), ?_, ?_⟩, [], List.mem_cons_self, fun f h => (by cases h)⟩
  · exact fun f h => by cases h
  · exact (aAllc ⟨_, rfl, (fF_b (r := 658) (by decide) rfl).mpr q0⟩ (fun f h => by cases h))
theorem rw_ruD1 {K : Nat → Nat} {n : Nat} : aGho (fF K n) fa_T K n (fJX K n) ag_ruD1 := by
  refine aGho_of ⟨rfl, rfl⟩ ?_
  intro p σ ρ hH hX hA hM
  have hG := aAG_of hA.1 (fun i e v he hv => (hA.2 i e v he hv).1)
  clear hA
  obtain ⟨v0, v1, v2, v3, rfl, g0, g1, g2, g3⟩ := fA_4 hG
  clear hG
  obtain ⟨x0, rfl, b0, d0⟩ := fG_ref (by decide) g0
  obtain ⟨x1, rfl, b1, d1⟩ := aG_int g1
  dsimp only at b1 d1
  obtain ⟨x2, rfl, b2, d2⟩ := aG_int g2
  dsimp only at b2 d2
  obtain ⟨x3, rfl, b3, d3⟩ := fG_ref (by decide) g3
  obtain ⟨m1, m2, m3, m4⟩ := hM
  obtain ⟨a0, c0, fs0, w0, e1, s0, t0, e4⟩ := m1 (0, 0, 3) (List.mem_of_getElem? (i := 0) rfl)
  obtain rfl : x0 = a0 := Sum.inl.inj (Option.some.inj (Sum.inr.inj (Sum.inr.inj (Option.some.inj (show some (fR x0) = some _ from e1)))))
  obtain rfl : fR x3 = w0 := Option.some.inj (show some (fR x3) = some _ from e4)
  clear e1 e4
  obtain ⟨a, mc0, ty0, gc0, ic0, e1, sc0, jc0, e4, e5⟩ := m2 (3, ([(1, 1)], -1), 2) (List.mem_of_getElem? (i := 0) rfl)
  obtain rfl : x3 = a := Sum.inl.inj (Option.some.inj (Sum.inr.inj (Sum.inr.inj (Option.some.inj (show some (fR x3) = some _ from e1)))))
  obtain ⟨gc0, rfl⟩ : ∃ g, gc0 = .inl g := by
    rcases gc0 with g | g
    · exact ⟨g, rfl⟩
    · exact absurd (show some (fI x2) = some (.inr (.inl (g ic0))) from e5) (fun h => by cases h)
  have sc0 : σ x3 = .inl (ty0, mc0, .inl gc0) := sc0
  have ec0 : x2 = gc0 ic0 := Sum.inl.inj (Option.some.inj (show some (fI x2) = some _ from e5))
  have kc0 : (ic0 : Int) = (1 * x1.toInt + 0) + -1 := by
    obtain ⟨z, e6, e7⟩ := e4
    obtain rfl : (1 * x1.toInt + 0) = z := Option.some.inj (show some (1 * x1.toInt + 0) = some z from e6)
    exact e7
  clear e1 e4 e5
  have f0 : fB K n p 1 [fR x0] σ := by
    obtain ⟨w, e6, e7⟩ := m4 (17, [0]) (List.mem_of_getElem? (i := 0) rfl)
    obtain rfl : [fR x0] = w := Option.some.inj (show some [fR x0] = some w from e6)
    exact (fF_b (r := 17) (by decide) rfl).mp e7
  clear m1 m2 m3 m4
  have q0 : fB K n p 42 [fI x1, fI x2] σ := by
    obtain ⟨a, e, h0, hg⟩ := f0
    cases e
    have hF := fAt_of h0 s0
    obtain ⟨g, hr1, hr2⟩ := hF.1 x3 t0
    rw [hr1] at sc0
    cases sc0
    refine ⟨x1, x2, rfl, ?_⟩
    rw [ec0, hr2 ic0 (by omega), show (x1.toInt - 1).toNat = ic0 by omega]
  refine ⟨p, fun _ => rfl, ⟨fun q h => (by cases h), fun q h => (by cases h), ?_, ?_⟩, [], List.mem_cons_self, fun f h => (by cases h)⟩
  · exact fun f h => by cases h
  · exact (aAllc ⟨_, rfl, (fF_b (r := 674) (by decide) rfl).mpr q0⟩ (fun f h => by cases h))
theorem rw_ruD2 {K : Nat → Nat} {n : Nat} : aGho (fF K n) fa_T K n (fJX K n) ag_ruD2 := by
  refine aGho_of ⟨rfl, rfl⟩ ?_
  intro p σ ρ hH hX hA hM
  have hG := aAG_of hA.1 (fun i e v he hv => (hA.2 i e v he hv).1)
  clear hA
  obtain ⟨v0, v1, v2, v3, rfl, g0, g1, g2, g3⟩ := fA_4 hG
  clear hG
  obtain ⟨x0, rfl, b0, d0⟩ := fG_ref (by decide) g0
  obtain ⟨x1, rfl, b1, d1⟩ := aG_int g1
  dsimp only at b1 d1
  obtain ⟨x2, rfl, b2, d2⟩ := aG_int g2
  dsimp only at b2 d2
  obtain ⟨x3, rfl, b3, d3⟩ := fG_ref (by decide) g3
  obtain ⟨m1, m2, m3, m4⟩ := hM
  obtain ⟨a0, c0, fs0, w0, e1, s0, t0, e4⟩ := m1 (0, 0, 3) (List.mem_of_getElem? (i := 0) rfl)
  obtain rfl : x0 = a0 := Sum.inl.inj (Option.some.inj (Sum.inr.inj (Sum.inr.inj (Option.some.inj (show some (fR x0) = some _ from e1)))))
  obtain rfl : fR x3 = w0 := Option.some.inj (show some (fR x3) = some _ from e4)
  clear e1 e4
  obtain ⟨a, mc0, ty0, gc0, ic0, e1, sc0, jc0, e4, e5⟩ := m2 (3, ([(1, 1)], -2), 2) (List.mem_of_getElem? (i := 0) rfl)
  obtain rfl : x3 = a := Sum.inl.inj (Option.some.inj (Sum.inr.inj (Sum.inr.inj (Option.some.inj (show some (fR x3) = some _ from e1)))))
  obtain ⟨gc0, rfl⟩ : ∃ g, gc0 = .inl g := by
    rcases gc0 with g | g
    · exact ⟨g, rfl⟩
    · exact absurd (show some (fI x2) = some (.inr (.inl (g ic0))) from e5) (fun h => by cases h)
  have sc0 : σ x3 = .inl (ty0, mc0, .inl gc0) := sc0
  have ec0 : x2 = gc0 ic0 := Sum.inl.inj (Option.some.inj (show some (fI x2) = some _ from e5))
  have kc0 : (ic0 : Int) = (1 * x1.toInt + 0) + -2 := by
    obtain ⟨z, e6, e7⟩ := e4
    obtain rfl : (1 * x1.toInt + 0) = z := Option.some.inj (show some (1 * x1.toInt + 0) = some z from e6)
    exact e7
  clear e1 e4 e5
  have f0 : fB K n p 1 [fR x0] σ := by
    obtain ⟨w, e6, e7⟩ := m4 (17, [0]) (List.mem_of_getElem? (i := 0) rfl)
    obtain rfl : [fR x0] = w := Option.some.inj (show some [fR x0] = some w from e6)
    exact (fF_b (r := 17) (by decide) rfl).mp e7
  clear m1 m2 m3 m4
  have q0 : fB K n p 43 [fI x1, fI x2] σ := by
    obtain ⟨a, e, h0, hg⟩ := f0
    cases e
    have hF := fAt_of h0 s0
    obtain ⟨g, hr1, hr2⟩ := hF.1 x3 t0
    rw [hr1] at sc0
    cases sc0
    refine ⟨x1, x2, rfl, ?_⟩
    rw [ec0, hr2 ic0 (by omega), show (x1.toInt - 2).toNat = ic0 by omega]
  refine ⟨p, fun _ => rfl, ⟨fun q h => (by cases h), fun q h => (by cases h), ?_, ?_⟩, [], List.mem_cons_self, fun f h => (by cases h)⟩
  · exact fun f h => by cases h
  · exact (aAllc ⟨_, rfl, (fF_b (r := 690) (by decide) rfl).mpr q0⟩ (fun f h => by cases h))
theorem rw_ruRs0 {K : Nat → Nat} {n : Nat} : aGho (fF K n) fa_T K n (fJX K n) ag_ruRs0 := by
  refine aGho_of ⟨rfl, rfl⟩ ?_
  intro p σ ρ hH hX hA hM
  have hG := aAG_of hA.1 (fun i e v he hv => (hA.2 i e v he hv).1)
  clear hA
  obtain ⟨v0, v1, v2, v3, rfl, g0, g1, g2, g3⟩ := fA_4 hG
  clear hG
  obtain ⟨x0, rfl, b0, d0⟩ := fG_ref (by decide) g0
  obtain ⟨x1, rfl, b1, d1⟩ := aG_int g1
  dsimp only at b1 d1
  obtain ⟨x2, rfl, b2, d2⟩ := aG_int g2
  dsimp only at b2 d2
  obtain ⟨x3, rfl, b3, d3⟩ := aG_int g3
  dsimp only at b3 d3
  obtain ⟨m1, m2, m3, m4⟩ := hM
  obtain ⟨a0, c0, fs0, w0, e1, s0, t0, e4⟩ := m1 (0, 3, 2) (List.mem_of_getElem? (i := 0) rfl)
  obtain rfl : x0 = a0 := Sum.inl.inj (Option.some.inj (Sum.inr.inj (Sum.inr.inj (Option.some.inj (show some (fR x0) = some _ from e1)))))
  obtain rfl : fI x2 = w0 := Option.some.inj (show some (fI x2) = some _ from e4)
  clear e1 e4
  obtain ⟨a1, c1, fs1, w1, e1, s1, t1, e4⟩ := m1 (0, 2, 3) (List.mem_of_getElem? (i := 1) rfl)
  obtain rfl : x0 = a1 := Sum.inl.inj (Option.some.inj (Sum.inr.inj (Sum.inr.inj (Option.some.inj (show some (fR x0) = some _ from e1)))))
  obtain rfl : fI x3 = w1 := Option.some.inj (show some (fI x3) = some _ from e4)
  clear e1 e4
  have f0 : fB K n p 1 [fR x0] σ := by
    obtain ⟨w, e6, e7⟩ := m4 (17, [0]) (List.mem_of_getElem? (i := 0) rfl)
    obtain rfl : [fR x0] = w := Option.some.inj (show some [fR x0] = some w from e6)
    exact (fF_b (r := 17) (by decide) rfl).mp e7
  clear m1 m2 m3 m4
  have q0 : fB K n p 44 [fI x1] σ := by
    obtain ⟨a, e, h0, hg⟩ := f0
    cases e
    have hF := fAt_of h0 s0
    have h3 := hF.2.2.1 x2 t0
    have h2 := hF.2.1 x3 (by rw [s0] at s1; cases s1; exact t1)
    have hr := (hg.1.2.1 0 (by decide)).1
    refine ⟨x1, rfl, ?_⟩
    have hr2 := (hr (by rw [← h3, show ((4 ^ 0 : Nat) : Int) = 1 by decide]; omega)).2
    rw [← h2, show (x1.toInt + 3).toNat = 56 * 0 + 7 by omega, hr2]
    omega
  refine ⟨p, fun _ => rfl, ⟨fun q h => (by cases h), fun q h => (by cases h), ?_, ?_⟩, [], List.mem_cons_self, fun f h => (by cases h)⟩
  · exact fun f h => by cases h
  · exact (aAllc ⟨_, rfl, (fF_b (r := 705) (by decide) rfl).mpr q0⟩ (fun f h => by cases h))
theorem rw_ruRs1 {K : Nat → Nat} {n : Nat} : aGho (fF K n) fa_T K n (fJX K n) ag_ruRs1 := by
  refine aGho_of ⟨rfl, rfl⟩ ?_
  intro p σ ρ hH hX hA hM
  have hG := aAG_of hA.1 (fun i e v he hv => (hA.2 i e v he hv).1)
  clear hA
  obtain ⟨v0, v1, v2, v3, rfl, g0, g1, g2, g3⟩ := fA_4 hG
  clear hG
  obtain ⟨x0, rfl, b0, d0⟩ := fG_ref (by decide) g0
  obtain ⟨x1, rfl, b1, d1⟩ := aG_int g1
  dsimp only at b1 d1
  obtain ⟨x2, rfl, b2, d2⟩ := aG_int g2
  dsimp only at b2 d2
  obtain ⟨x3, rfl, b3, d3⟩ := aG_int g3
  dsimp only at b3 d3
  obtain ⟨m1, m2, m3, m4⟩ := hM
  obtain ⟨a0, c0, fs0, w0, e1, s0, t0, e4⟩ := m1 (0, 3, 2) (List.mem_of_getElem? (i := 0) rfl)
  obtain rfl : x0 = a0 := Sum.inl.inj (Option.some.inj (Sum.inr.inj (Sum.inr.inj (Option.some.inj (show some (fR x0) = some _ from e1)))))
  obtain rfl : fI x2 = w0 := Option.some.inj (show some (fI x2) = some _ from e4)
  clear e1 e4
  obtain ⟨a1, c1, fs1, w1, e1, s1, t1, e4⟩ := m1 (0, 2, 3) (List.mem_of_getElem? (i := 1) rfl)
  obtain rfl : x0 = a1 := Sum.inl.inj (Option.some.inj (Sum.inr.inj (Sum.inr.inj (Option.some.inj (show some (fR x0) = some _ from e1)))))
  obtain rfl : fI x3 = w1 := Option.some.inj (show some (fI x3) = some _ from e4)
  clear e1 e4
  have f0 : fB K n p 1 [fR x0] σ := by
    obtain ⟨w, e6, e7⟩ := m4 (17, [0]) (List.mem_of_getElem? (i := 0) rfl)
    obtain rfl : [fR x0] = w := Option.some.inj (show some [fR x0] = some w from e6)
    exact (fF_b (r := 17) (by decide) rfl).mp e7
  clear m1 m2 m3 m4
  have q0 : fB K n p 44 [fI x1] σ := by
    obtain ⟨a, e, h0, hg⟩ := f0
    cases e
    have hF := fAt_of h0 s0
    have h3 := hF.2.2.1 x2 t0
    have h2 := hF.2.1 x3 (by rw [s0] at s1; cases s1; exact t1)
    have hr := (hg.1.2.1 0 (by decide)).1
    refine ⟨x1, rfl, ?_⟩
    have hr2 := (hr (by rw [← h3, show ((4 ^ 0 : Nat) : Int) = 1 by decide]; omega)).2
    rw [← h2, show (x1.toInt + 3).toNat = 56 * 0 + 7 by omega, hr2]
    omega
  refine ⟨p, fun _ => rfl, ⟨fun q h => (by cases h), fun q h => (by cases h), ?_, ?_⟩, [], List.mem_cons_self, fun f h => (by cases h)⟩
  · exact fun f h => by cases h
  · exact (aAllc ⟨_, rfl, (fF_b (r := 705) (by decide) rfl).mpr q0⟩ (fun f h => by cases h))
theorem rw_ruRs2 {K : Nat → Nat} {n : Nat} : aGho (fF K n) fa_T K n (fJX K n) ag_ruRs2 := by
  refine aGho_of ⟨rfl, rfl⟩ ?_
  intro p σ ρ hH hX hA hM
  have hG := aAG_of hA.1 (fun i e v he hv => (hA.2 i e v he hv).1)
  clear hA
  obtain ⟨v0, v1, v2, v3, rfl, g0, g1, g2, g3⟩ := fA_4 hG
  clear hG
  obtain ⟨x0, rfl, b0, d0⟩ := fG_ref (by decide) g0
  obtain ⟨x1, rfl, b1, d1⟩ := aG_int g1
  dsimp only at b1 d1
  obtain ⟨x2, rfl, b2, d2⟩ := aG_int g2
  dsimp only at b2 d2
  obtain ⟨x3, rfl, b3, d3⟩ := aG_int g3
  dsimp only at b3 d3
  obtain ⟨m1, m2, m3, m4⟩ := hM
  obtain ⟨a0, c0, fs0, w0, e1, s0, t0, e4⟩ := m1 (0, 3, 2) (List.mem_of_getElem? (i := 0) rfl)
  obtain rfl : x0 = a0 := Sum.inl.inj (Option.some.inj (Sum.inr.inj (Sum.inr.inj (Option.some.inj (show some (fR x0) = some _ from e1)))))
  obtain rfl : fI x2 = w0 := Option.some.inj (show some (fI x2) = some _ from e4)
  clear e1 e4
  obtain ⟨a1, c1, fs1, w1, e1, s1, t1, e4⟩ := m1 (0, 2, 3) (List.mem_of_getElem? (i := 1) rfl)
  obtain rfl : x0 = a1 := Sum.inl.inj (Option.some.inj (Sum.inr.inj (Sum.inr.inj (Option.some.inj (show some (fR x0) = some _ from e1)))))
  obtain rfl : fI x3 = w1 := Option.some.inj (show some (fI x3) = some _ from e4)
  clear e1 e4
  have f0 : fB K n p 1 [fR x0] σ := by
    obtain ⟨w, e6, e7⟩ := m4 (17, [0]) (List.mem_of_getElem? (i := 0) rfl)
    obtain rfl : [fR x0] = w := Option.some.inj (show some [fR x0] = some w from e6)
    exact (fF_b (r := 17) (by decide) rfl).mp e7
  clear m1 m2 m3 m4
  have q0 : fB K n p 44 [fI x1] σ := by
    obtain ⟨a, e, h0, hg⟩ := f0
    cases e
    have hF := fAt_of h0 s0
    have h3 := hF.2.2.1 x2 t0
    have h2 := hF.2.1 x3 (by rw [s0] at s1; cases s1; exact t1)
    have hr := (hg.1.2.1 0 (by decide)).1
    refine ⟨x1, rfl, ?_⟩
    have hr2 := (hr (by rw [← h3, show ((4 ^ 0 : Nat) : Int) = 1 by decide]; omega)).2
    rw [← h2, show (x1.toInt + 3).toNat = 56 * 0 + 7 by omega, hr2]
    omega
  refine ⟨p, fun _ => rfl, ⟨fun q h => (by cases h), fun q h => (by cases h), ?_, ?_⟩, [], List.mem_cons_self, fun f h => (by cases h)⟩
  · exact fun f h => by cases h
  · exact (aAllc ⟨_, rfl, (fF_b (r := 705) (by decide) rfl).mpr q0⟩ (fun f h => by cases h))
theorem rw_ruRs3 {K : Nat → Nat} {n : Nat} : aGho (fF K n) fa_T K n (fJX K n) ag_ruRs3 := by
  refine aGho_of ⟨rfl, rfl⟩ ?_
  intro p σ ρ hH hX hA hM
  have hG := aAG_of hA.1 (fun i e v he hv => (hA.2 i e v he hv).1)
  clear hA
  obtain ⟨v0, v1, v2, v3, rfl, g0, g1, g2, g3⟩ := fA_4 hG
  clear hG
  obtain ⟨x0, rfl, b0, d0⟩ := fG_ref (by decide) g0
  obtain ⟨x1, rfl, b1, d1⟩ := aG_int g1
  dsimp only at b1 d1
  obtain ⟨x2, rfl, b2, d2⟩ := aG_int g2
  dsimp only at b2 d2
  obtain ⟨x3, rfl, b3, d3⟩ := aG_int g3
  dsimp only at b3 d3
  obtain ⟨m1, m2, m3, m4⟩ := hM
  obtain ⟨a0, c0, fs0, w0, e1, s0, t0, e4⟩ := m1 (0, 3, 2) (List.mem_of_getElem? (i := 0) rfl)
  obtain rfl : x0 = a0 := Sum.inl.inj (Option.some.inj (Sum.inr.inj (Sum.inr.inj (Option.some.inj (show some (fR x0) = some _ from e1)))))
  obtain rfl : fI x2 = w0 := Option.some.inj (show some (fI x2) = some _ from e4)
  clear e1 e4
  obtain ⟨a1, c1, fs1, w1, e1, s1, t1, e4⟩ := m1 (0, 2, 3) (List.mem_of_getElem? (i := 1) rfl)
  obtain rfl : x0 = a1 := Sum.inl.inj (Option.some.inj (Sum.inr.inj (Sum.inr.inj (Option.some.inj (show some (fR x0) = some _ from e1)))))
  obtain rfl : fI x3 = w1 := Option.some.inj (show some (fI x3) = some _ from e4)
  clear e1 e4
  have f0 : fB K n p 1 [fR x0] σ := by
    obtain ⟨w, e6, e7⟩ := m4 (17, [0]) (List.mem_of_getElem? (i := 0) rfl)
    obtain rfl : [fR x0] = w := Option.some.inj (show some [fR x0] = some w from e6)
    exact (fF_b (r := 17) (by decide) rfl).mp e7
  clear m1 m2 m3 m4
  have q0 : fB K n p 44 [fI x1] σ := by
    obtain ⟨a, e, h0, hg⟩ := f0
    cases e
    have hF := fAt_of h0 s0
    have h3 := hF.2.2.1 x2 t0
    have h2 := hF.2.1 x3 (by rw [s0] at s1; cases s1; exact t1)
    have hr := (hg.1.2.1 0 (by decide)).1
    refine ⟨x1, rfl, ?_⟩
    have hr2 := (hr (by rw [← h3, show ((4 ^ 0 : Nat) : Int) = 1 by decide]; omega)).2
    rw [← h2, show (x1.toInt + 3).toNat = 56 * 0 + 7 by omega, hr2]
    omega
  refine ⟨p, fun _ => rfl, ⟨fun q h => (by cases h), fun q h => (by cases h), ?_, ?_⟩, [], List.mem_cons_self, fun f h => (by cases h)⟩
  · exact fun f h => by cases h
  · exact (aAllc ⟨_, rfl, (fF_b (r := 705) (by decide) rfl).mpr q0⟩ (fun f h => by cases h))
theorem rw_ruRs4 {K : Nat → Nat} {n : Nat} : aGho (fF K n) fa_T K n (fJX K n) ag_ruRs4 := by
  refine aGho_of ⟨rfl, rfl⟩ ?_
  intro p σ ρ hH hX hA hM
  have hG := aAG_of hA.1 (fun i e v he hv => (hA.2 i e v he hv).1)
  clear hA
  obtain ⟨v0, v1, v2, v3, rfl, g0, g1, g2, g3⟩ := fA_4 hG
  clear hG
  obtain ⟨x0, rfl, b0, d0⟩ := fG_ref (by decide) g0
  obtain ⟨x1, rfl, b1, d1⟩ := aG_int g1
  dsimp only at b1 d1
  obtain ⟨x2, rfl, b2, d2⟩ := aG_int g2
  dsimp only at b2 d2
  obtain ⟨x3, rfl, b3, d3⟩ := aG_int g3
  dsimp only at b3 d3
  obtain ⟨m1, m2, m3, m4⟩ := hM
  obtain ⟨a0, c0, fs0, w0, e1, s0, t0, e4⟩ := m1 (0, 3, 2) (List.mem_of_getElem? (i := 0) rfl)
  obtain rfl : x0 = a0 := Sum.inl.inj (Option.some.inj (Sum.inr.inj (Sum.inr.inj (Option.some.inj (show some (fR x0) = some _ from e1)))))
  obtain rfl : fI x2 = w0 := Option.some.inj (show some (fI x2) = some _ from e4)
  clear e1 e4
  obtain ⟨a1, c1, fs1, w1, e1, s1, t1, e4⟩ := m1 (0, 2, 3) (List.mem_of_getElem? (i := 1) rfl)
  obtain rfl : x0 = a1 := Sum.inl.inj (Option.some.inj (Sum.inr.inj (Sum.inr.inj (Option.some.inj (show some (fR x0) = some _ from e1)))))
  obtain rfl : fI x3 = w1 := Option.some.inj (show some (fI x3) = some _ from e4)
  clear e1 e4
  have f0 : fB K n p 1 [fR x0] σ := by
    obtain ⟨w, e6, e7⟩ := m4 (17, [0]) (List.mem_of_getElem? (i := 0) rfl)
    obtain rfl : [fR x0] = w := Option.some.inj (show some [fR x0] = some w from e6)
    exact (fF_b (r := 17) (by decide) rfl).mp e7
  clear m1 m2 m3 m4
  have q0 : fB K n p 44 [fI x1] σ := by
    obtain ⟨a, e, h0, hg⟩ := f0
    cases e
    have hF := fAt_of h0 s0
    have h3 := hF.2.2.1 x2 t0
    have h2 := hF.2.1 x3 (by rw [s0] at s1; cases s1; exact t1)
    have hr := (hg.1.2.1 0 (by decide)).1
    refine ⟨x1, rfl, ?_⟩
    have hr2 := (hr (by rw [← h3, show ((4 ^ 0 : Nat) : Int) = 1 by decide]; omega)).2
    rw [← h2, show (x1.toInt + 3).toNat = 56 * 0 + 7 by omega, hr2]
    omega
  refine ⟨p, fun _ => rfl, ⟨fun q h => (by cases h), fun q h => (by cases h), ?_, ?_⟩, [], List.mem_cons_self, fun f h => (by cases h)⟩
  · exact fun f h => by cases h
  · exact (aAllc ⟨_, rfl, (fF_b (r := 705) (by decide) rfl).mpr q0⟩ (fun f h => by cases h))
theorem rw_ruRs5 {K : Nat → Nat} {n : Nat} : aGho (fF K n) fa_T K n (fJX K n) ag_ruRs5 := by
  refine aGho_of ⟨rfl, rfl⟩ ?_
  intro p σ ρ hH hX hA hM
  have hG := aAG_of hA.1 (fun i e v he hv => (hA.2 i e v he hv).1)
  clear hA
  obtain ⟨v0, v1, v2, v3, rfl, g0, g1, g2, g3⟩ := fA_4 hG
  clear hG
  obtain ⟨x0, rfl, b0, d0⟩ := fG_ref (by decide) g0
  obtain ⟨x1, rfl, b1, d1⟩ := aG_int g1
  dsimp only at b1 d1
  obtain ⟨x2, rfl, b2, d2⟩ := aG_int g2
  dsimp only at b2 d2
  obtain ⟨x3, rfl, b3, d3⟩ := aG_int g3
  dsimp only at b3 d3
  obtain ⟨m1, m2, m3, m4⟩ := hM
  obtain ⟨a0, c0, fs0, w0, e1, s0, t0, e4⟩ := m1 (0, 3, 2) (List.mem_of_getElem? (i := 0) rfl)
  obtain rfl : x0 = a0 := Sum.inl.inj (Option.some.inj (Sum.inr.inj (Sum.inr.inj (Option.some.inj (show some (fR x0) = some _ from e1)))))
  obtain rfl : fI x2 = w0 := Option.some.inj (show some (fI x2) = some _ from e4)
  clear e1 e4
  obtain ⟨a1, c1, fs1, w1, e1, s1, t1, e4⟩ := m1 (0, 2, 3) (List.mem_of_getElem? (i := 1) rfl)
  obtain rfl : x0 = a1 := Sum.inl.inj (Option.some.inj (Sum.inr.inj (Sum.inr.inj (Option.some.inj (show some (fR x0) = some _ from e1)))))
  obtain rfl : fI x3 = w1 := Option.some.inj (show some (fI x3) = some _ from e4)
  clear e1 e4
  have f0 : fB K n p 1 [fR x0] σ := by
    obtain ⟨w, e6, e7⟩ := m4 (17, [0]) (List.mem_of_getElem? (i := 0) rfl)
    obtain rfl : [fR x0] = w := Option.some.inj (show some [fR x0] = some w from e6)
    exact (fF_b (r := 17) (by decide) rfl).mp e7
  clear m1 m2 m3 m4
  have q0 : fB K n p 44 [fI x1] σ := by
    obtain ⟨a, e, h0, hg⟩ := f0
    cases e
    have hF := fAt_of h0 s0
    have h3 := hF.2.2.1 x2 t0
    have h2 := hF.2.1 x3 (by rw [s0] at s1; cases s1; exact t1)
    have hr := (hg.1.2.1 0 (by decide)).1
    refine ⟨x1, rfl, ?_⟩
    have hr2 := (hr (by rw [← h3, show ((4 ^ 0 : Nat) : Int) = 1 by decide]; omega)).2
    rw [← h2, show (x1.toInt + 3).toNat = 56 * 0 + 7 by omega, hr2]
    omega
  refine ⟨p, fun _ => rfl, ⟨fun q h => (by cases h), fun q h => (by cases h), ?_, ?_⟩, [], List.mem_cons_self, fun f h => (by cases h)⟩
  · exact fun f h => by cases h
  · exact (aAllc ⟨_, rfl, (fF_b (r := 705) (by decide) rfl).mpr q0⟩ (fun f h => by cases h))
theorem rw_ruRs6 {K : Nat → Nat} {n : Nat} : aGho (fF K n) fa_T K n (fJX K n) ag_ruRs6 := by
  refine aGho_of ⟨rfl, rfl⟩ ?_
  intro p σ ρ hH hX hA hM
  have hG := aAG_of hA.1 (fun i e v he hv => (hA.2 i e v he hv).1)
  clear hA
  obtain ⟨v0, v1, v2, v3, rfl, g0, g1, g2, g3⟩ := fA_4 hG
  clear hG
  obtain ⟨x0, rfl, b0, d0⟩ := fG_ref (by decide) g0
  obtain ⟨x1, rfl, b1, d1⟩ := aG_int g1
  dsimp only at b1 d1
  obtain ⟨x2, rfl, b2, d2⟩ := aG_int g2
  dsimp only at b2 d2
  obtain ⟨x3, rfl, b3, d3⟩ := aG_int g3
  dsimp only at b3 d3
  obtain ⟨m1, m2, m3, m4⟩ := hM
  obtain ⟨a0, c0, fs0, w0, e1, s0, t0, e4⟩ := m1 (0, 3, 2) (List.mem_of_getElem? (i := 0) rfl)
  obtain rfl : x0 = a0 := Sum.inl.inj (Option.some.inj (Sum.inr.inj (Sum.inr.inj (Option.some.inj (show some (fR x0) = some _ from e1)))))
  obtain rfl : fI x2 = w0 := Option.some.inj (show some (fI x2) = some _ from e4)
  clear e1 e4
  obtain ⟨a1, c1, fs1, w1, e1, s1, t1, e4⟩ := m1 (0, 2, 3) (List.mem_of_getElem? (i := 1) rfl)
  obtain rfl : x0 = a1 := Sum.inl.inj (Option.some.inj (Sum.inr.inj (Sum.inr.inj (Option.some.inj (show some (fR x0) = some _ from e1)))))
  obtain rfl : fI x3 = w1 := Option.some.inj (show some (fI x3) = some _ from e4)
  clear e1 e4
  have f0 : fB K n p 1 [fR x0] σ := by
    obtain ⟨w, e6, e7⟩ := m4 (17, [0]) (List.mem_of_getElem? (i := 0) rfl)
    obtain rfl : [fR x0] = w := Option.some.inj (show some [fR x0] = some w from e6)
    exact (fF_b (r := 17) (by decide) rfl).mp e7
  clear m1 m2 m3 m4
  have q0 : fB K n p 44 [fI x1] σ := by
    obtain ⟨a, e, h0, hg⟩ := f0
    cases e
    have hF := fAt_of h0 s0
    have h3 := hF.2.2.1 x2 t0
    have h2 := hF.2.1 x3 (by rw [s0] at s1; cases s1; exact t1)
    have hr := (hg.1.2.1 0 (by decide)).1
    refine ⟨x1, rfl, ?_⟩
    have hr2 := (hr (by rw [← h3, show ((4 ^ 0 : Nat) : Int) = 1 by decide]; omega)).2
    rw [← h2, show (x1.toInt + 3).toNat = 56 * 0 + 7 by omega, hr2]
    omega
  refine ⟨p, fun _ => rfl, ⟨fun q h => (by cases h), fun q h => (by cases h), ?_, ?_⟩, [], List.mem_cons_self, fun f h => (by cases h)⟩
  · exact fun f h => by cases h
  · exact (aAllc ⟨_, rfl, (fF_b (r := 705) (by decide) rfl).mpr q0⟩ (fun f h => by cases h))
theorem rw_ruRs7 {K : Nat → Nat} {n : Nat} : aGho (fF K n) fa_T K n (fJX K n) ag_ruRs7 := by
  refine aGho_of ⟨rfl, rfl⟩ ?_
  intro p σ ρ hH hX hA hM
  have hG := aAG_of hA.1 (fun i e v he hv => (hA.2 i e v he hv).1)
  clear hA
  obtain ⟨v0, v1, v2, v3, rfl, g0, g1, g2, g3⟩ := fA_4 hG
  clear hG
  obtain ⟨x0, rfl, b0, d0⟩ := fG_ref (by decide) g0
  obtain ⟨x1, rfl, b1, d1⟩ := aG_int g1
  dsimp only at b1 d1
  obtain ⟨x2, rfl, b2, d2⟩ := aG_int g2
  dsimp only at b2 d2
  obtain ⟨x3, rfl, b3, d3⟩ := aG_int g3
  dsimp only at b3 d3
  obtain ⟨m1, m2, m3, m4⟩ := hM
  obtain ⟨a0, c0, fs0, w0, e1, s0, t0, e4⟩ := m1 (0, 3, 2) (List.mem_of_getElem? (i := 0) rfl)
  obtain rfl : x0 = a0 := Sum.inl.inj (Option.some.inj (Sum.inr.inj (Sum.inr.inj (Option.some.inj (show some (fR x0) = some _ from e1)))))
  obtain rfl : fI x2 = w0 := Option.some.inj (show some (fI x2) = some _ from e4)
  clear e1 e4
  obtain ⟨a1, c1, fs1, w1, e1, s1, t1, e4⟩ := m1 (0, 2, 3) (List.mem_of_getElem? (i := 1) rfl)
  obtain rfl : x0 = a1 := Sum.inl.inj (Option.some.inj (Sum.inr.inj (Sum.inr.inj (Option.some.inj (show some (fR x0) = some _ from e1)))))
  obtain rfl : fI x3 = w1 := Option.some.inj (show some (fI x3) = some _ from e4)
  clear e1 e4
  have f0 : fB K n p 1 [fR x0] σ := by
    obtain ⟨w, e6, e7⟩ := m4 (17, [0]) (List.mem_of_getElem? (i := 0) rfl)
    obtain rfl : [fR x0] = w := Option.some.inj (show some [fR x0] = some w from e6)
    exact (fF_b (r := 17) (by decide) rfl).mp e7
  clear m1 m2 m3 m4
  have q0 : fB K n p 44 [fI x1] σ := by
    obtain ⟨a, e, h0, hg⟩ := f0
    cases e
    have hF := fAt_of h0 s0
    have h3 := hF.2.2.1 x2 t0
    have h2 := hF.2.1 x3 (by rw [s0] at s1; cases s1; exact t1)
    have hr := (hg.1.2.1 0 (by decide)).1
    refine ⟨x1, rfl, ?_⟩
    have hr2 := (hr (by rw [← h3, show ((4 ^ 0 : Nat) : Int) = 1 by decide]; omega)).2
    rw [← h2, show (x1.toInt + 3).toNat = 56 * 0 + 7 by omega, hr2]
    omega
  refine ⟨p, fun _ => rfl, ⟨fun q h => (by cases h), fun q h => (by cases h), ?_, ?_⟩, [], List.mem_cons_self, fun f h => (by cases h)⟩
  · exact fun f h => by cases h
  · exact (aAllc ⟨_, rfl, (fF_b (r := 705) (by decide) rfl).mpr q0⟩ (fun f h => by cases h))
theorem rw_ruRs8 {K : Nat → Nat} {n : Nat} : aGho (fF K n) fa_T K n (fJX K n) ag_ruRs8 := by
  refine aGho_of ⟨rfl, rfl⟩ ?_
  intro p σ ρ hH hX hA hM
  have hG := aAG_of hA.1 (fun i e v he hv => (hA.2 i e v he hv).1)
  clear hA
  obtain ⟨v0, v1, v2, v3, rfl, g0, g1, g2, g3⟩ := fA_4 hG
  clear hG
  obtain ⟨x0, rfl, b0, d0⟩ := fG_ref (by decide) g0
  obtain ⟨x1, rfl, b1, d1⟩ := aG_int g1
  dsimp only at b1 d1
  obtain ⟨x2, rfl, b2, d2⟩ := aG_int g2
  dsimp only at b2 d2
  obtain ⟨x3, rfl, b3, d3⟩ := aG_int g3
  dsimp only at b3 d3
  obtain ⟨m1, m2, m3, m4⟩ := hM
  obtain ⟨a0, c0, fs0, w0, e1, s0, t0, e4⟩ := m1 (0, 3, 2) (List.mem_of_getElem? (i := 0) rfl)
  obtain rfl : x0 = a0 := Sum.inl.inj (Option.some.inj (Sum.inr.inj (Sum.inr.inj (Option.some.inj (show some (fR x0) = some _ from e1)))))
  obtain rfl : fI x2 = w0 := Option.some.inj (show some (fI x2) = some _ from e4)
  clear e1 e4
  obtain ⟨a1, c1, fs1, w1, e1, s1, t1, e4⟩ := m1 (0, 2, 3) (List.mem_of_getElem? (i := 1) rfl)
  obtain rfl : x0 = a1 := Sum.inl.inj (Option.some.inj (Sum.inr.inj (Sum.inr.inj (Option.some.inj (show some (fR x0) = some _ from e1)))))
  obtain rfl : fI x3 = w1 := Option.some.inj (show some (fI x3) = some _ from e4)
  clear e1 e4
  have f0 : fB K n p 1 [fR x0] σ := by
    obtain ⟨w, e6, e7⟩ := m4 (17, [0]) (List.mem_of_getElem? (i := 0) rfl)
    obtain rfl : [fR x0] = w := Option.some.inj (show some [fR x0] = some w from e6)
    exact (fF_b (r := 17) (by decide) rfl).mp e7
  clear m1 m2 m3 m4
  have q0 : fB K n p 44 [fI x1] σ := by
    obtain ⟨a, e, h0, hg⟩ := f0
    cases e
    have hF := fAt_of h0 s0
    have h3 := hF.2.2.1 x2 t0
    have h2 := hF.2.1 x3 (by rw [s0] at s1; cases s1; exact t1)
    have hr := (hg.1.2.1 1 (by decide)).1
    refine ⟨x1, rfl, ?_⟩
    have hr2 := (hr (by rw [← h3, show ((4 ^ 1 : Nat) : Int) = 4 by decide]; omega)).2
    rw [← h2, show (x1.toInt + 3).toNat = 56 * 1 + 7 by omega, hr2]
    omega
  refine ⟨p, fun _ => rfl, ⟨fun q h => (by cases h), fun q h => (by cases h), ?_, ?_⟩, [], List.mem_cons_self, fun f h => (by cases h)⟩
  · exact fun f h => by cases h
  · exact (aAllc ⟨_, rfl, (fF_b (r := 705) (by decide) rfl).mpr q0⟩ (fun f h => by cases h))
theorem rw_ruRs9 {K : Nat → Nat} {n : Nat} : aGho (fF K n) fa_T K n (fJX K n) ag_ruRs9 := by
  refine aGho_of ⟨rfl, rfl⟩ ?_
  intro p σ ρ hH hX hA hM
  have hG := aAG_of hA.1 (fun i e v he hv => (hA.2 i e v he hv).1)
  clear hA
  obtain ⟨v0, v1, v2, v3, rfl, g0, g1, g2, g3⟩ := fA_4 hG
  clear hG
  obtain ⟨x0, rfl, b0, d0⟩ := fG_ref (by decide) g0
  obtain ⟨x1, rfl, b1, d1⟩ := aG_int g1
  dsimp only at b1 d1
  obtain ⟨x2, rfl, b2, d2⟩ := aG_int g2
  dsimp only at b2 d2
  obtain ⟨x3, rfl, b3, d3⟩ := aG_int g3
  dsimp only at b3 d3
  obtain ⟨m1, m2, m3, m4⟩ := hM
  obtain ⟨a0, c0, fs0, w0, e1, s0, t0, e4⟩ := m1 (0, 3, 2) (List.mem_of_getElem? (i := 0) rfl)
  obtain rfl : x0 = a0 := Sum.inl.inj (Option.some.inj (Sum.inr.inj (Sum.inr.inj (Option.some.inj (show some (fR x0) = some _ from e1)))))
  obtain rfl : fI x2 = w0 := Option.some.inj (show some (fI x2) = some _ from e4)
  clear e1 e4
  obtain ⟨a1, c1, fs1, w1, e1, s1, t1, e4⟩ := m1 (0, 2, 3) (List.mem_of_getElem? (i := 1) rfl)
  obtain rfl : x0 = a1 := Sum.inl.inj (Option.some.inj (Sum.inr.inj (Sum.inr.inj (Option.some.inj (show some (fR x0) = some _ from e1)))))
  obtain rfl : fI x3 = w1 := Option.some.inj (show some (fI x3) = some _ from e4)
  clear e1 e4
  have f0 : fB K n p 1 [fR x0] σ := by
    obtain ⟨w, e6, e7⟩ := m4 (17, [0]) (List.mem_of_getElem? (i := 0) rfl)
    obtain rfl : [fR x0] = w := Option.some.inj (show some [fR x0] = some w from e6)
    exact (fF_b (r := 17) (by decide) rfl).mp e7
  clear m1 m2 m3 m4
  have q0 : fB K n p 44 [fI x1] σ := by
    obtain ⟨a, e, h0, hg⟩ := f0
    cases e
    have hF := fAt_of h0 s0
    have h3 := hF.2.2.1 x2 t0
    have h2 := hF.2.1 x3 (by rw [s0] at s1; cases s1; exact t1)
    have hr := (hg.1.2.1 1 (by decide)).1
    refine ⟨x1, rfl, ?_⟩
    have hr2 := (hr (by rw [← h3, show ((4 ^ 1 : Nat) : Int) = 4 by decide]; omega)).2
    rw [← h2, show (x1.toInt + 3).toNat = 56 * 1 + 7 by omega, hr2]
    omega
  refine ⟨p, fun _ => rfl, ⟨fun q h => (by cases h), fun q h => (by cases h), ?_, ?_⟩, [], List.mem_cons_self, fun f h => (by cases h)⟩
  · exact fun f h => by cases h
  · exact (aAllc ⟨_, rfl, (fF_b (r := 705) (by decide) rfl).mpr q0⟩ (fun f h => by cases h))
theorem rw_ruRl10 {K : Nat → Nat} {n : Nat} : aGho (fF K n) fa_T K n (fJX K n) ag_ruRl10 := by
  refine aGho_of ⟨rfl, rfl⟩ ?_
  intro p σ ρ hH hX hA hM
  have hG := aAG_of hA.1 (fun i e v he hv => (hA.2 i e v he hv).1)
  clear hA
  obtain ⟨v0, v1, v2, v3, rfl, g0, g1, g2, g3⟩ := fA_4 hG
  clear hG
  obtain ⟨x0, rfl, b0, d0⟩ := fG_ref (by decide) g0
  obtain ⟨x1, rfl, b1, d1⟩ := aG_int g1
  dsimp only at b1 d1
  obtain ⟨x2, rfl, b2, d2⟩ := aG_int g2
  dsimp only at b2 d2
  obtain ⟨x3, rfl, b3, d3⟩ := aG_int g3
  dsimp only at b3 d3
  obtain ⟨m1, m2, m3, m4⟩ := hM
  obtain ⟨a0, c0, fs0, w0, e1, s0, t0, e4⟩ := m1 (0, 3, 2) (List.mem_of_getElem? (i := 0) rfl)
  obtain rfl : x0 = a0 := Sum.inl.inj (Option.some.inj (Sum.inr.inj (Sum.inr.inj (Option.some.inj (show some (fR x0) = some _ from e1)))))
  obtain rfl : fI x2 = w0 := Option.some.inj (show some (fI x2) = some _ from e4)
  clear e1 e4
  obtain ⟨a1, c1, fs1, w1, e1, s1, t1, e4⟩ := m1 (0, 2, 3) (List.mem_of_getElem? (i := 1) rfl)
  obtain rfl : x0 = a1 := Sum.inl.inj (Option.some.inj (Sum.inr.inj (Sum.inr.inj (Option.some.inj (show some (fR x0) = some _ from e1)))))
  obtain rfl : fI x3 = w1 := Option.some.inj (show some (fI x3) = some _ from e4)
  clear e1 e4
  have f0 : fB K n p 1 [fR x0] σ := by
    obtain ⟨w, e6, e7⟩ := m4 (17, [0]) (List.mem_of_getElem? (i := 0) rfl)
    obtain rfl : [fR x0] = w := Option.some.inj (show some [fR x0] = some w from e6)
    exact (fF_b (r := 17) (by decide) rfl).mp e7
  clear m1 m2 m3 m4
  have q0 : fB K n p 45 [fI x1] σ := by
    obtain ⟨a, e, h0, hg⟩ := f0
    cases e
    have hF := fAt_of h0 s0
    have h3 := hF.2.2.1 x2 t0
    have h2 := hF.2.1 x3 (by rw [s0] at s1; cases s1; exact t1)
    have hr := (hg.1.2.1 0 (by decide)).2.1
    refine ⟨x1, rfl, ?_⟩
    have hr2 := (hr (by rw [← h3, show ((2 * 4 ^ 0 : Nat) : Int) = 2 by decide]; omega)).2
    rw [← h2, show (x1.toInt - 4).toNat = 56 * 0 + 0 by omega, hr2]
    omega
  refine ⟨p, fun _ => rfl, ⟨fun q h => (by cases h), fun q h => (by cases h), ?_, ?_⟩, [], List.mem_cons_self, fun f h => (by cases h)⟩
  · exact fun f h => by cases h
  · exact (aAllc ⟨_, rfl, (fF_b (r := 721) (by decide) rfl).mpr q0⟩ (fun f h => by cases h))
theorem rw_ruRl11 {K : Nat → Nat} {n : Nat} : aGho (fF K n) fa_T K n (fJX K n) ag_ruRl11 := by
  refine aGho_of ⟨rfl, rfl⟩ ?_
  intro p σ ρ hH hX hA hM
  have hG := aAG_of hA.1 (fun i e v he hv => (hA.2 i e v he hv).1)
  clear hA
  obtain ⟨v0, v1, v2, v3, rfl, g0, g1, g2, g3⟩ := fA_4 hG
  clear hG
  obtain ⟨x0, rfl, b0, d0⟩ := fG_ref (by decide) g0
  obtain ⟨x1, rfl, b1, d1⟩ := aG_int g1
  dsimp only at b1 d1
  obtain ⟨x2, rfl, b2, d2⟩ := aG_int g2
  dsimp only at b2 d2
  obtain ⟨x3, rfl, b3, d3⟩ := aG_int g3
  dsimp only at b3 d3
  obtain ⟨m1, m2, m3, m4⟩ := hM
  obtain ⟨a0, c0, fs0, w0, e1, s0, t0, e4⟩ := m1 (0, 3, 2) (List.mem_of_getElem? (i := 0) rfl)
  obtain rfl : x0 = a0 := Sum.inl.inj (Option.some.inj (Sum.inr.inj (Sum.inr.inj (Option.some.inj (show some (fR x0) = some _ from e1)))))
  obtain rfl : fI x2 = w0 := Option.some.inj (show some (fI x2) = some _ from e4)
  clear e1 e4
  obtain ⟨a1, c1, fs1, w1, e1, s1, t1, e4⟩ := m1 (0, 2, 3) (List.mem_of_getElem? (i := 1) rfl)
  obtain rfl : x0 = a1 := Sum.inl.inj (Option.some.inj (Sum.inr.inj (Sum.inr.inj (Option.some.inj (show some (fR x0) = some _ from e1)))))
  obtain rfl : fI x3 = w1 := Option.some.inj (show some (fI x3) = some _ from e4)
  clear e1 e4
  have f0 : fB K n p 1 [fR x0] σ := by
    obtain ⟨w, e6, e7⟩ := m4 (17, [0]) (List.mem_of_getElem? (i := 0) rfl)
    obtain rfl : [fR x0] = w := Option.some.inj (show some [fR x0] = some w from e6)
    exact (fF_b (r := 17) (by decide) rfl).mp e7
  clear m1 m2 m3 m4
  have q0 : fB K n p 45 [fI x1] σ := by
    obtain ⟨a, e, h0, hg⟩ := f0
    cases e
    have hF := fAt_of h0 s0
    have h3 := hF.2.2.1 x2 t0
    have h2 := hF.2.1 x3 (by rw [s0] at s1; cases s1; exact t1)
    have hr := (hg.1.2.1 0 (by decide)).2.1
    refine ⟨x1, rfl, ?_⟩
    have hr2 := (hr (by rw [← h3, show ((2 * 4 ^ 0 : Nat) : Int) = 2 by decide]; omega)).2
    rw [← h2, show (x1.toInt - 4).toNat = 56 * 0 + 0 by omega, hr2]
    omega
  refine ⟨p, fun _ => rfl, ⟨fun q h => (by cases h), fun q h => (by cases h), ?_, ?_⟩, [], List.mem_cons_self, fun f h => (by cases h)⟩
  · exact fun f h => by cases h
  · exact (aAllc ⟨_, rfl, (fF_b (r := 721) (by decide) rfl).mpr q0⟩ (fun f h => by cases h))
theorem rw_ruRl12 {K : Nat → Nat} {n : Nat} : aGho (fF K n) fa_T K n (fJX K n) ag_ruRl12 := by
  refine aGho_of ⟨rfl, rfl⟩ ?_
  intro p σ ρ hH hX hA hM
  have hG := aAG_of hA.1 (fun i e v he hv => (hA.2 i e v he hv).1)
  clear hA
  obtain ⟨v0, v1, v2, v3, rfl, g0, g1, g2, g3⟩ := fA_4 hG
  clear hG
  obtain ⟨x0, rfl, b0, d0⟩ := fG_ref (by decide) g0
  obtain ⟨x1, rfl, b1, d1⟩ := aG_int g1
  dsimp only at b1 d1
  obtain ⟨x2, rfl, b2, d2⟩ := aG_int g2
  dsimp only at b2 d2
  obtain ⟨x3, rfl, b3, d3⟩ := aG_int g3
  dsimp only at b3 d3
  obtain ⟨m1, m2, m3, m4⟩ := hM
  obtain ⟨a0, c0, fs0, w0, e1, s0, t0, e4⟩ := m1 (0, 3, 2) (List.mem_of_getElem? (i := 0) rfl)
  obtain rfl : x0 = a0 := Sum.inl.inj (Option.some.inj (Sum.inr.inj (Sum.inr.inj (Option.some.inj (show some (fR x0) = some _ from e1)))))
  obtain rfl : fI x2 = w0 := Option.some.inj (show some (fI x2) = some _ from e4)
  clear e1 e4
  obtain ⟨a1, c1, fs1, w1, e1, s1, t1, e4⟩ := m1 (0, 2, 3) (List.mem_of_getElem? (i := 1) rfl)
  obtain rfl : x0 = a1 := Sum.inl.inj (Option.some.inj (Sum.inr.inj (Sum.inr.inj (Option.some.inj (show some (fR x0) = some _ from e1)))))
  obtain rfl : fI x3 = w1 := Option.some.inj (show some (fI x3) = some _ from e4)
  clear e1 e4
  have f0 : fB K n p 1 [fR x0] σ := by
    obtain ⟨w, e6, e7⟩ := m4 (17, [0]) (List.mem_of_getElem? (i := 0) rfl)
    obtain rfl : [fR x0] = w := Option.some.inj (show some [fR x0] = some w from e6)
    exact (fF_b (r := 17) (by decide) rfl).mp e7
  clear m1 m2 m3 m4
  have q0 : fB K n p 45 [fI x1] σ := by
    obtain ⟨a, e, h0, hg⟩ := f0
    cases e
    have hF := fAt_of h0 s0
    have h3 := hF.2.2.1 x2 t0
    have h2 := hF.2.1 x3 (by rw [s0] at s1; cases s1; exact t1)
    have hr := (hg.1.2.1 0 (by decide)).2.1
    refine ⟨x1, rfl, ?_⟩
    have hr2 := (hr (by rw [← h3, show ((2 * 4 ^ 0 : Nat) : Int) = 2 by decide]; omega)).2
    rw [← h2, show (x1.toInt - 4).toNat = 56 * 0 + 0 by omega, hr2]
    omega
  refine ⟨p, fun _ => rfl, ⟨fun q h => (by cases h), fun q h => (by cases h), ?_, ?_⟩, [], List.mem_cons_self, fun f h => (by cases h)⟩
  · exact fun f h => by cases h
  · exact (aAllc ⟨_, rfl, (fF_b (r := 721) (by decide) rfl).mpr q0⟩ (fun f h => by cases h))
theorem rw_ruRl13 {K : Nat → Nat} {n : Nat} : aGho (fF K n) fa_T K n (fJX K n) ag_ruRl13 := by
  refine aGho_of ⟨rfl, rfl⟩ ?_
  intro p σ ρ hH hX hA hM
  have hG := aAG_of hA.1 (fun i e v he hv => (hA.2 i e v he hv).1)
  clear hA
  obtain ⟨v0, v1, v2, v3, rfl, g0, g1, g2, g3⟩ := fA_4 hG
  clear hG
  obtain ⟨x0, rfl, b0, d0⟩ := fG_ref (by decide) g0
  obtain ⟨x1, rfl, b1, d1⟩ := aG_int g1
  dsimp only at b1 d1
  obtain ⟨x2, rfl, b2, d2⟩ := aG_int g2
  dsimp only at b2 d2
  obtain ⟨x3, rfl, b3, d3⟩ := aG_int g3
  dsimp only at b3 d3
  obtain ⟨m1, m2, m3, m4⟩ := hM
  obtain ⟨a0, c0, fs0, w0, e1, s0, t0, e4⟩ := m1 (0, 3, 2) (List.mem_of_getElem? (i := 0) rfl)
  obtain rfl : x0 = a0 := Sum.inl.inj (Option.some.inj (Sum.inr.inj (Sum.inr.inj (Option.some.inj (show some (fR x0) = some _ from e1)))))
  obtain rfl : fI x2 = w0 := Option.some.inj (show some (fI x2) = some _ from e4)
  clear e1 e4
  obtain ⟨a1, c1, fs1, w1, e1, s1, t1, e4⟩ := m1 (0, 2, 3) (List.mem_of_getElem? (i := 1) rfl)
  obtain rfl : x0 = a1 := Sum.inl.inj (Option.some.inj (Sum.inr.inj (Sum.inr.inj (Option.some.inj (show some (fR x0) = some _ from e1)))))
  obtain rfl : fI x3 = w1 := Option.some.inj (show some (fI x3) = some _ from e4)
  clear e1 e4
  have f0 : fB K n p 1 [fR x0] σ := by
    obtain ⟨w, e6, e7⟩ := m4 (17, [0]) (List.mem_of_getElem? (i := 0) rfl)
    obtain rfl : [fR x0] = w := Option.some.inj (show some [fR x0] = some w from e6)
    exact (fF_b (r := 17) (by decide) rfl).mp e7
  clear m1 m2 m3 m4
  have q0 : fB K n p 45 [fI x1] σ := by
    obtain ⟨a, e, h0, hg⟩ := f0
    cases e
    have hF := fAt_of h0 s0
    have h3 := hF.2.2.1 x2 t0
    have h2 := hF.2.1 x3 (by rw [s0] at s1; cases s1; exact t1)
    have hr := (hg.1.2.1 0 (by decide)).2.1
    refine ⟨x1, rfl, ?_⟩
    have hr2 := (hr (by rw [← h3, show ((2 * 4 ^ 0 : Nat) : Int) = 2 by decide]; omega)).2
    rw [← h2, show (x1.toInt - 4).toNat = 56 * 0 + 0 by omega, hr2]
    omega
  refine ⟨p, fun _ => rfl, ⟨fun q h => (by cases h), fun q h => (by cases h), ?_, ?_⟩, [], List.mem_cons_self, fun f h => (by cases h)⟩
  · exact fun f h => by cases h
  · exact (aAllc ⟨_, rfl, (fF_b (r := 721) (by decide) rfl).mpr q0⟩ (fun f h => by cases h))
theorem rw_ruRl14 {K : Nat → Nat} {n : Nat} : aGho (fF K n) fa_T K n (fJX K n) ag_ruRl14 := by
  refine aGho_of ⟨rfl, rfl⟩ ?_
  intro p σ ρ hH hX hA hM
  have hG := aAG_of hA.1 (fun i e v he hv => (hA.2 i e v he hv).1)
  clear hA
  obtain ⟨v0, v1, v2, v3, rfl, g0, g1, g2, g3⟩ := fA_4 hG
  clear hG
  obtain ⟨x0, rfl, b0, d0⟩ := fG_ref (by decide) g0
  obtain ⟨x1, rfl, b1, d1⟩ := aG_int g1
  dsimp only at b1 d1
  obtain ⟨x2, rfl, b2, d2⟩ := aG_int g2
  dsimp only at b2 d2
  obtain ⟨x3, rfl, b3, d3⟩ := aG_int g3
  dsimp only at b3 d3
  obtain ⟨m1, m2, m3, m4⟩ := hM
  obtain ⟨a0, c0, fs0, w0, e1, s0, t0, e4⟩ := m1 (0, 3, 2) (List.mem_of_getElem? (i := 0) rfl)
  obtain rfl : x0 = a0 := Sum.inl.inj (Option.some.inj (Sum.inr.inj (Sum.inr.inj (Option.some.inj (show some (fR x0) = some _ from e1)))))
  obtain rfl : fI x2 = w0 := Option.some.inj (show some (fI x2) = some _ from e4)
  clear e1 e4
  obtain ⟨a1, c1, fs1, w1, e1, s1, t1, e4⟩ := m1 (0, 2, 3) (List.mem_of_getElem? (i := 1) rfl)
  obtain rfl : x0 = a1 := Sum.inl.inj (Option.some.inj (Sum.inr.inj (Sum.inr.inj (Option.some.inj (show some (fR x0) = some _ from e1)))))
  obtain rfl : fI x3 = w1 := Option.some.inj (show some (fI x3) = some _ from e4)
  clear e1 e4
  have f0 : fB K n p 1 [fR x0] σ := by
    obtain ⟨w, e6, e7⟩ := m4 (17, [0]) (List.mem_of_getElem? (i := 0) rfl)
    obtain rfl : [fR x0] = w := Option.some.inj (show some [fR x0] = some w from e6)
    exact (fF_b (r := 17) (by decide) rfl).mp e7
  clear m1 m2 m3 m4
  have q0 : fB K n p 45 [fI x1] σ := by
    obtain ⟨a, e, h0, hg⟩ := f0
    cases e
    have hF := fAt_of h0 s0
    have h3 := hF.2.2.1 x2 t0
    have h2 := hF.2.1 x3 (by rw [s0] at s1; cases s1; exact t1)
    have hr := (hg.1.2.1 1 (by decide)).2.1
    refine ⟨x1, rfl, ?_⟩
    have hr2 := (hr (by rw [← h3, show ((2 * 4 ^ 1 : Nat) : Int) = 8 by decide]; omega)).2
    rw [← h2, show (x1.toInt - 4).toNat = 56 * 1 + 0 by omega, hr2]
    omega
  refine ⟨p, fun _ => rfl, ⟨fun q h => (by cases h), fun q h => (by cases h), ?_, ?_⟩, [], List.mem_cons_self, fun f h => (by cases h)⟩
  · exact fun f h => by cases h
  · exact (aAllc ⟨_, rfl, (fF_b (r := 721) (by decide) rfl).mpr q0⟩ (fun f h => by cases h))
theorem rw_ruLL0SI {K : Nat → Nat} {n : Nat} : aGho (fF K n) fa_T K n (fJX K n) ag_ruLL0SI := by
  refine aGho_of ⟨rfl, rfl⟩ ?_
  intro p σ ρ hH hX hA hM
  have hG := aAG_of hA.1 (fun i e v he hv => (hA.2 i e v he hv).1)
  clear hA
  obtain ⟨v0, v1, v2, rfl, g0, g1, g2⟩ := fA_3 hG
  clear hG
  obtain ⟨x0, rfl, b0, d0⟩ := fG_ref (by decide) g0
  obtain ⟨x1, rfl, b1, d1⟩ := aG_int g1
  dsimp only at b1 d1
  obtain ⟨x2, rfl, b2, d2⟩ := aG_int g2
  dsimp only at b2 d2
  obtain ⟨m1, m2, m3, m4⟩ := hM
  clear m1 m2 m3 m4
  have q0 : fB K n p 26 [fR x0, fI x1, fI x1, fI x2] σ := by
    obtain ⟨g, h1⟩ := fRow hH b0 d0 rfl (by decide)
    exact ⟨x0, x1, x1, x2, rfl, b0, by unfold fRw; omega, _, g, h1, fun k hk => by dsimp only at hk; omega⟩
  refine ⟨p, fun _ => rfl, ⟨fun q h => (by cases h), fun q h => (by cases h), ?_, ?_⟩, [], List.mem_cons_self, fun f h => (by cases h)⟩
  · exact fun f h => by cases h
  · exact (aAllc ⟨_, rfl, (fF_b (r := 420) (by decide) rfl).mpr q0⟩ (fun f h => by cases h))
theorem rw_ruLXnSI {K : Nat → Nat} {n : Nat} : aGho (fF K n) fa_T K n (fJX K n) ag_ruLXnSI := by
  refine aGho_of ⟨rfl, rfl⟩ ?_
  intro p σ ρ hH hX hA hM
  have hG := aAG_of hA.1 (fun i e v he hv => (hA.2 i e v he hv).1)
  clear hA
  obtain ⟨v0, v1, v2, v3, v4, rfl, g0, g1, g2, g3, g4⟩ := fA_5 hG
  clear hG
  obtain ⟨x0, rfl, b0, d0⟩ := fG_ref (by decide) g0
  obtain ⟨x1, rfl, b1, d1⟩ := aG_int g1
  dsimp only at b1 d1
  obtain ⟨x2, rfl, b2, d2⟩ := aG_int g2
  dsimp only at b2 d2
  obtain ⟨x3, rfl, b3, d3⟩ := aG_int g3
  dsimp only at b3 d3
  obtain ⟨x4, rfl, b4, d4⟩ := aG_int g4
  dsimp only at b4 d4
  obtain ⟨m1, m2, m3, m4⟩ := hM
  have l0 : 0 ≤ (1 * x4.toInt + (-1 * x2.toInt + 0)) + -1 := by
    obtain ⟨z, e6, e7⟩ := m3 ([(4, 1), (2, -1)], -1) (List.mem_of_getElem? (i := 0) rfl)
    obtain rfl : (1 * x4.toInt + (-1 * x2.toInt + 0)) = z := Option.some.inj (show some (1 * x4.toInt + (-1 * x2.toInt + 0)) = some z from e6)
    exact e7
  have l1 : 0 ≤ (-1 * x4.toInt + (1 * x2.toInt + 0)) + 1 := by
    obtain ⟨z, e6, e7⟩ := m3 ([(4, -1), (2, 1)], 1) (List.mem_of_getElem? (i := 1) rfl)
    obtain rfl : (-1 * x4.toInt + (1 * x2.toInt + 0)) = z := Option.some.inj (show some (-1 * x4.toInt + (1 * x2.toInt + 0)) = some z from e6)
    exact e7
  have f0 : fB K n p 27 [fR x0, fI x1, fI x2, fI x3] σ := by
    obtain ⟨w, e6, e7⟩ := m4 (436, [0, 1, 2, 3]) (List.mem_of_getElem? (i := 0) rfl)
    obtain rfl : [fR x0, fI x1, fI x2, fI x3] = w := Option.some.inj (show some [fR x0, fI x1, fI x2, fI x3] = some w from e6)
    exact (fF_b (r := 436) (by decide) rfl).mp e7
  clear m1 m2 m3 m4
  have q0 : fB K n p 26 [fR x0, fI x1, fI x4, fI x3] σ := by
    obtain ⟨a, lo, hi, s, e, h1, h2, m, g, h3, h4⟩ := f0
    cases e
    exact ⟨x0, x1, x4, x3, rfl, h1, h2, m, g, h3, fun k hk => h4 k (by dsimp only at hk ⊢; omega)⟩
  refine ⟨p, fun _ => rfl, ⟨fun q h => (by cases h), fun q h => (by cases h), ?_, ?_⟩, [], List.mem_cons_self, fun f h => (by cases h)⟩
  · exact fun f h => by cases h
  · exact (aAllc ⟨_, rfl, (fF_b (r := 420) (by decide) rfl).mpr q0⟩ (fun f h => by cases h))
theorem rw_ruGSSI {K : Nat → Nat} {n : Nat} : aGho (fF K n) fa_T K n (fJX K n) ag_ruGSSI := by
  refine aGho_of ⟨rfl, rfl⟩ ?_
  intro p σ ρ hH hX hA hM
  have hG := aAG_of hA.1 (fun i e v he hv => (hA.2 i e v he hv).1)
  clear hA
  obtain ⟨v0, v1, v2, v3, v4, v5, v6, v7, v8, rfl, g0, g1, g2, g3, g4, g5, g6, g7, g8⟩ := fA_9 hG
  clear hG
  obtain ⟨x0, rfl, b0, d0⟩ := fG_ref (by decide) g0
  obtain ⟨x1, rfl, b1, d1⟩ := aG_int g1
  dsimp only at b1 d1
  obtain ⟨x2, rfl, b2, d2⟩ := aG_int g2
  dsimp only at b2 d2
  obtain ⟨x3, rfl, b3, d3⟩ := aG_int g3
  dsimp only at b3 d3
  obtain ⟨x4, rfl, b4, d4⟩ := aG_int g4
  dsimp only at b4 d4
  obtain ⟨x5, rfl, b5, d5⟩ := aG_int g5
  dsimp only at b5 d5
  obtain ⟨x6, rfl, b6, d6⟩ := aG_int g6
  dsimp only at b6 d6
  obtain ⟨x7, rfl, b7, d7⟩ := aG_int g7
  dsimp only at b7 d7
  obtain ⟨x8, rfl, b8, d8⟩ := aG_int g8
  dsimp only at b8 d8
  obtain ⟨m1, m2, m3, m4⟩ := hM
  have l0 : 0 ≤ (1 * x2.toInt + (-512 * x4.toInt + (-8 * x5.toInt + 0))) + 0 := by
    obtain ⟨z, e6, e7⟩ := m3 ([(2, 1), (4, -512), (5, -8)], 0) (List.mem_of_getElem? (i := 0) rfl)
    obtain rfl : (1 * x2.toInt + (-512 * x4.toInt + (-8 * x5.toInt + 0))) = z := Option.some.inj (show some (1 * x2.toInt + (-512 * x4.toInt + (-8 * x5.toInt + 0))) = some z from e6)
    exact e7
  have l1 : 0 ≤ (-1 * x2.toInt + (512 * x4.toInt + (8 * x5.toInt + 0))) + 0 := by
    obtain ⟨z, e6, e7⟩ := m3 ([(2, -1), (4, 512), (5, 8)], 0) (List.mem_of_getElem? (i := 1) rfl)
    obtain rfl : (-1 * x2.toInt + (512 * x4.toInt + (8 * x5.toInt + 0))) = z := Option.some.inj (show some (-1 * x2.toInt + (512 * x4.toInt + (8 * x5.toInt + 0))) = some z from e6)
    exact e7
  have l2 : 0 ≤ (1 * x1.toInt + (-1 * x3.toInt + 0)) + 0 := by
    obtain ⟨z, e6, e7⟩ := m3 ([(1, 1), (3, -1)], 0) (List.mem_of_getElem? (i := 2) rfl)
    obtain rfl : (1 * x1.toInt + (-1 * x3.toInt + 0)) = z := Option.some.inj (show some (1 * x1.toInt + (-1 * x3.toInt + 0)) = some z from e6)
    exact e7
  have f0 : fB K n p 26 [fR x0, fI x3, fI x1, fI x4] σ := by
    obtain ⟨w, e6, e7⟩ := m4 (420, [0, 3, 1, 4]) (List.mem_of_getElem? (i := 0) rfl)
    obtain rfl : [fR x0, fI x3, fI x1, fI x4] = w := Option.some.inj (show some [fR x0, fI x3, fI x1, fI x4] = some w from e6)
    exact (fF_b (r := 420) (by decide) rfl).mp e7
  have f1 : fB K n p 25 [fI x4, fI x6] σ := by
    obtain ⟨w, e6, e7⟩ := m4 (402, [4, 6]) (List.mem_of_getElem? (i := 1) rfl)
    obtain rfl : [fI x4, fI x6] = w := Option.some.inj (show some [fI x4, fI x6] = some w from e6)
    exact (fF_b (r := 402) (by decide) rfl).mp e7
  have f2 : fB K n p 31 [fI x6] σ := by
    obtain ⟨w, e6, e7⟩ := m4 (497, [6]) (List.mem_of_getElem? (i := 2) rfl)
    obtain rfl : [fI x6] = w := Option.some.inj (show some [fI x6] = some w from e6)
    exact (fF_b (r := 497) (by decide) rfl).mp e7
  have f3 : fB K n p 18 [fI x4, fI x7, fI x8, fI x5] σ := by
    obtain ⟨w, e6, e7⟩ := m4 (292, [4, 7, 8, 5]) (List.mem_of_getElem? (i := 3) rfl)
    obtain rfl : [fI x4, fI x7, fI x8, fI x5] = w := Option.some.inj (show some [fI x4, fI x7, fI x8, fI x5] = some w from e6)
    exact (fF_b (r := 292) (by decide) rfl).mp e7
  clear m1 m2 m3 m4
  have q0 : fB K n p 27 [fR x0, fI x3, fI x1, fI x4] (jup σ x0 (jsto (σ x0) x1.toNatClampNeg x2)) := by
    obtain ⟨a, lo, hi, s, e, h0⟩ := f0
    cases e
    obtain ⟨s, k, e, h1⟩ := f1
    cases e
    obtain ⟨k, e, h2, h3⟩ := f2
    cases e
    obtain ⟨s, i, k, t, e, h4, h5, h6⟩ := f3
    cases e
    have h7 := fRay b4 d4 b7 d7 h4 h5
    refine ⟨x0, x3, x1, x4, rfl, ?_⟩
    refine fLl_st h0 (fun _ => ?_) (fun k hk h9 => ?_)
    · have hm := fMk (m := x2) (f := x4.toInt) (t := x5.toInt) (b := 0) (by omega) (by omega) (by omega) (by omega)
      have hf : fMf x2 = x4.toNatClampNeg := by rw [fNc]; omega
      have hk : x6.toNatClampNeg = x6.toInt.toNat := rfl
      refine ⟨⟨x6.toNatClampNeg, by omega, by rw [hf]; exact h1, by omega, by omega, by omega, by omega, by omega, by omega, by omega, by omega⟩, hf⟩
    · rw [fNc] at hk
      omega
  refine ⟨p, fun _ => rfl, ⟨fun q h => (by cases h), fun q h => (by cases h), ?_, ?_⟩, [], List.mem_cons_self, fun f h => (by cases h)⟩
  · exact fun f h => by cases h
  · exact (aAllc ⟨_, rfl, fF_p (r := 436) (by decide) (by decide) rfl q0⟩ (fun f h => by cases h))
theorem rw_ruGHSI {K : Nat → Nat} {n : Nat} : aGho (fF K n) fa_T K n (fJX K n) ag_ruGHSI := by
  refine aGho_of ⟨rfl, rfl⟩ ?_
  intro p σ ρ hH hX hA hM
  have hG := aAG_of hA.1 (fun i e v he hv => (hA.2 i e v he hv).1)
  clear hA
  obtain ⟨v0, v1, v2, v3, v4, v5, v6, rfl, g0, g1, g2, g3, g4, g5, g6⟩ := fA_7 hG
  clear hG
  obtain ⟨x0, rfl, b0, d0⟩ := fG_ref (by decide) g0
  obtain ⟨x1, rfl, b1, d1⟩ := aG_int g1
  dsimp only at b1 d1
  obtain ⟨x2, rfl, b2, d2⟩ := aG_int g2
  dsimp only at b2 d2
  obtain ⟨x3, rfl, b3, d3⟩ := aG_int g3
  dsimp only at b3 d3
  obtain ⟨x4, rfl, b4, d4⟩ := aG_int g4
  dsimp only at b4 d4
  obtain ⟨x5, rfl, b5, d5⟩ := aG_int g5
  dsimp only at b5 d5
  obtain ⟨x6, rfl, b6, d6⟩ := aG_int g6
  dsimp only at b6 d6
  obtain ⟨m1, m2, m3, m4⟩ := hM
  have l0 : 0 ≤ (1 * x2.toInt + (-512 * x4.toInt + (-8 * x5.toInt + 0))) + 0 := by
    obtain ⟨z, e6, e7⟩ := m3 ([(2, 1), (4, -512), (5, -8)], 0) (List.mem_of_getElem? (i := 0) rfl)
    obtain rfl : (1 * x2.toInt + (-512 * x4.toInt + (-8 * x5.toInt + 0))) = z := Option.some.inj (show some (1 * x2.toInt + (-512 * x4.toInt + (-8 * x5.toInt + 0))) = some z from e6)
    exact e7
  have l1 : 0 ≤ (-1 * x2.toInt + (512 * x4.toInt + (8 * x5.toInt + 0))) + 0 := by
    obtain ⟨z, e6, e7⟩ := m3 ([(2, -1), (4, 512), (5, 8)], 0) (List.mem_of_getElem? (i := 1) rfl)
    obtain rfl : (-1 * x2.toInt + (512 * x4.toInt + (8 * x5.toInt + 0))) = z := Option.some.inj (show some (-1 * x2.toInt + (512 * x4.toInt + (8 * x5.toInt + 0))) = some z from e6)
    exact e7
  have l2 : 0 ≤ (1 * x1.toInt + (-1 * x3.toInt + 0)) + 0 := by
    obtain ⟨z, e6, e7⟩ := m3 ([(1, 1), (3, -1)], 0) (List.mem_of_getElem? (i := 2) rfl)
    obtain rfl : (1 * x1.toInt + (-1 * x3.toInt + 0)) = z := Option.some.inj (show some (1 * x1.toInt + (-1 * x3.toInt + 0)) = some z from e6)
    exact e7
  have f0 : fB K n p 26 [fR x0, fI x3, fI x1, fI x4] σ := by
    obtain ⟨w, e6, e7⟩ := m4 (420, [0, 3, 1, 4]) (List.mem_of_getElem? (i := 0) rfl)
    obtain rfl : [fR x0, fI x3, fI x1, fI x4] = w := Option.some.inj (show some [fR x0, fI x3, fI x1, fI x4] = some w from e6)
    exact (fF_b (r := 420) (by decide) rfl).mp e7
  have f1 : fB K n p 35 [fI x4] σ := by
    obtain ⟨w, e6, e7⟩ := m4 (561, [4]) (List.mem_of_getElem? (i := 1) rfl)
    obtain rfl : [fI x4] = w := Option.some.inj (show some [fI x4] = some w from e6)
    exact (fF_b (r := 561) (by decide) rfl).mp e7
  have f2 : fB K n p 37 [fI x4, fI x6, fI x5] σ := by
    obtain ⟨w, e6, e7⟩ := m4 (595, [4, 6, 5]) (List.mem_of_getElem? (i := 2) rfl)
    obtain rfl : [fI x4, fI x6, fI x5] = w := Option.some.inj (show some [fI x4, fI x6, fI x5] = some w from e6)
    exact (fF_b (r := 595) (by decide) rfl).mp e7
  clear m1 m2 m3 m4
  have q0 : fB K n p 27 [fR x0, fI x3, fI x1, fI x4] (jup σ x0 (jsto (σ x0) x1.toNatClampNeg x2)) := by
    obtain ⟨a, lo, hi, s, e, h0⟩ := f0
    cases e
    obtain ⟨s, e, h1⟩ := f1
    cases e
    obtain ⟨s, i, t, e, h2, h3, h4⟩ := f2
    cases e
    refine ⟨x0, x3, x1, x4, rfl, ?_⟩
    refine fLl_st h0 (fun _ => ?_) (fun k hk h9 => ?_)
    · have hm := fMk (m := x2) (f := x4.toInt) (t := x5.toInt) (b := 0) (by omega) (by omega) (by omega) (by omega)
      have hf : fMf x2 = x4.toNatClampNeg := by rw [fNc]; omega
      refine ⟨⟨2, by omega, by rw [hf]; exact h1, by omega, by omega, by omega, by omega, by omega, by omega, by omega, by omega⟩, hf⟩
    · rw [fNc] at hk
      omega
  refine ⟨p, fun _ => rfl, ⟨fun q h => (by cases h), fun q h => (by cases h), ?_, ?_⟩, [], List.mem_cons_self, fun f h => (by cases h)⟩
  · exact fun f h => by cases h
  · exact (aAllc ⟨_, rfl, fF_p (r := 436) (by decide) (by decide) rfl q0⟩ (fun f h => by cases h))
theorem rw_ruGKSI {K : Nat → Nat} {n : Nat} : aGho (fF K n) fa_T K n (fJX K n) ag_ruGKSI := by
  refine aGho_of ⟨rfl, rfl⟩ ?_
  intro p σ ρ hH hX hA hM
  have hG := aAG_of hA.1 (fun i e v he hv => (hA.2 i e v he hv).1)
  clear hA
  obtain ⟨v0, v1, v2, v3, v4, v5, v6, rfl, g0, g1, g2, g3, g4, g5, g6⟩ := fA_7 hG
  clear hG
  obtain ⟨x0, rfl, b0, d0⟩ := fG_ref (by decide) g0
  obtain ⟨x1, rfl, b1, d1⟩ := aG_int g1
  dsimp only at b1 d1
  obtain ⟨x2, rfl, b2, d2⟩ := aG_int g2
  dsimp only at b2 d2
  obtain ⟨x3, rfl, b3, d3⟩ := aG_int g3
  dsimp only at b3 d3
  obtain ⟨x4, rfl, b4, d4⟩ := aG_int g4
  dsimp only at b4 d4
  obtain ⟨x5, rfl, b5, d5⟩ := aG_int g5
  dsimp only at b5 d5
  obtain ⟨x6, rfl, b6, d6⟩ := aG_int g6
  dsimp only at b6 d6
  obtain ⟨m1, m2, m3, m4⟩ := hM
  have l0 : 0 ≤ (1 * x2.toInt + (-512 * x4.toInt + (-8 * x5.toInt + 0))) + 0 := by
    obtain ⟨z, e6, e7⟩ := m3 ([(2, 1), (4, -512), (5, -8)], 0) (List.mem_of_getElem? (i := 0) rfl)
    obtain rfl : (1 * x2.toInt + (-512 * x4.toInt + (-8 * x5.toInt + 0))) = z := Option.some.inj (show some (1 * x2.toInt + (-512 * x4.toInt + (-8 * x5.toInt + 0))) = some z from e6)
    exact e7
  have l1 : 0 ≤ (-1 * x2.toInt + (512 * x4.toInt + (8 * x5.toInt + 0))) + 0 := by
    obtain ⟨z, e6, e7⟩ := m3 ([(2, -1), (4, 512), (5, 8)], 0) (List.mem_of_getElem? (i := 1) rfl)
    obtain rfl : (-1 * x2.toInt + (512 * x4.toInt + (8 * x5.toInt + 0))) = z := Option.some.inj (show some (-1 * x2.toInt + (512 * x4.toInt + (8 * x5.toInt + 0))) = some z from e6)
    exact e7
  have l2 : 0 ≤ (1 * x1.toInt + (-1 * x3.toInt + 0)) + 0 := by
    obtain ⟨z, e6, e7⟩ := m3 ([(1, 1), (3, -1)], 0) (List.mem_of_getElem? (i := 2) rfl)
    obtain rfl : (1 * x1.toInt + (-1 * x3.toInt + 0)) = z := Option.some.inj (show some (1 * x1.toInt + (-1 * x3.toInt + 0)) = some z from e6)
    exact e7
  have f0 : fB K n p 26 [fR x0, fI x3, fI x1, fI x4] σ := by
    obtain ⟨w, e6, e7⟩ := m4 (420, [0, 3, 1, 4]) (List.mem_of_getElem? (i := 0) rfl)
    obtain rfl : [fR x0, fI x3, fI x1, fI x4] = w := Option.some.inj (show some [fR x0, fI x3, fI x1, fI x4] = some w from e6)
    exact (fF_b (r := 420) (by decide) rfl).mp e7
  have f1 : fB K n p 36 [fI x4] σ := by
    obtain ⟨w, e6, e7⟩ := m4 (577, [4]) (List.mem_of_getElem? (i := 1) rfl)
    obtain rfl : [fI x4] = w := Option.some.inj (show some [fI x4] = some w from e6)
    exact (fF_b (r := 577) (by decide) rfl).mp e7
  have f2 : fB K n p 37 [fI x4, fI x6, fI x5] σ := by
    obtain ⟨w, e6, e7⟩ := m4 (595, [4, 6, 5]) (List.mem_of_getElem? (i := 2) rfl)
    obtain rfl : [fI x4, fI x6, fI x5] = w := Option.some.inj (show some [fI x4, fI x6, fI x5] = some w from e6)
    exact (fF_b (r := 595) (by decide) rfl).mp e7
  clear m1 m2 m3 m4
  have q0 : fB K n p 27 [fR x0, fI x3, fI x1, fI x4] (jup σ x0 (jsto (σ x0) x1.toNatClampNeg x2)) := by
    obtain ⟨a, lo, hi, s, e, h0⟩ := f0
    cases e
    obtain ⟨s, e, h1⟩ := f1
    cases e
    obtain ⟨s, i, t, e, h2, h3, h4⟩ := f2
    cases e
    refine ⟨x0, x3, x1, x4, rfl, ?_⟩
    refine fLl_st h0 (fun _ => ?_) (fun k hk h9 => ?_)
    · have hm := fMk (m := x2) (f := x4.toInt) (t := x5.toInt) (b := 0) (by omega) (by omega) (by omega) (by omega)
      have hf : fMf x2 = x4.toNatClampNeg := by rw [fNc]; omega
      refine ⟨⟨6, by omega, by rw [hf]; exact h1, by omega, by omega, by omega, by omega, by omega, by omega, by omega, by omega⟩, hf⟩
    · rw [fNc] at hk
      omega
  refine ⟨p, fun _ => rfl, ⟨fun q h => (by cases h), fun q h => (by cases h), ?_, ?_⟩, [], List.mem_cons_self, fun f h => (by cases h)⟩
  · exact fun f h => by cases h
  · exact (aAllc ⟨_, rfl, fF_p (r := 436) (by decide) (by decide) rfl q0⟩ (fun f h => by cases h))
theorem rw_ruGCsSI {K : Nat → Nat} {n : Nat} : aGho (fF K n) fa_T K n (fJX K n) ag_ruGCsSI := by
  refine aGho_of ⟨rfl, rfl⟩ ?_
  intro p σ ρ hH hX hA hM
  have hG := aAG_of hA.1 (fun i e v he hv => (hA.2 i e v he hv).1)
  clear hA
  obtain ⟨v0, v1, v2, v3, v4, v5, v6, v7, v8, rfl, g0, g1, g2, g3, g4, g5, g6, g7, g8⟩ := fA_9 hG
  clear hG
  obtain ⟨x0, rfl, b0, d0⟩ := fG_ref (by decide) g0
  obtain ⟨x1, rfl, b1, d1⟩ := aG_int g1
  dsimp only at b1 d1
  obtain ⟨x2, rfl, b2, d2⟩ := aG_int g2
  dsimp only at b2 d2
  obtain ⟨x3, rfl, b3, d3⟩ := aG_int g3
  dsimp only at b3 d3
  obtain ⟨x4, rfl, b4, d4⟩ := aG_int g4
  dsimp only at b4 d4
  obtain ⟨x5, rfl, b5, d5⟩ := aG_int g5
  dsimp only at b5 d5
  obtain ⟨x6, rfl, b6, d6⟩ := aG_int g6
  dsimp only at b6 d6
  obtain ⟨x7, rfl, b7, d7⟩ := fG_ref (by decide) g7
  obtain ⟨x8, rfl, b8, d8⟩ := aG_int g8
  dsimp only at b8 d8
  obtain ⟨m1, m2, m3, m4⟩ := hM
  obtain ⟨a0, c0, fs0, w0, e1, s0, t0, e4⟩ := m1 (7, 2, 8) (List.mem_of_getElem? (i := 0) rfl)
  obtain rfl : x7 = a0 := Sum.inl.inj (Option.some.inj (Sum.inr.inj (Sum.inr.inj (Option.some.inj (show some (fR x7) = some _ from e1)))))
  obtain rfl : fI x8 = w0 := Option.some.inj (show some (fI x8) = some _ from e4)
  clear e1 e4
  have l0 : 0 ≤ (1 * x2.toInt + (-520 * x4.toInt + 0)) + -16 := by
    obtain ⟨z, e6, e7⟩ := m3 ([(2, 1), (4, -520)], -16) (List.mem_of_getElem? (i := 0) rfl)
    obtain rfl : (1 * x2.toInt + (-520 * x4.toInt + 0)) = z := Option.some.inj (show some (1 * x2.toInt + (-520 * x4.toInt + 0)) = some z from e6)
    exact e7
  have l1 : 0 ≤ (-1 * x2.toInt + (520 * x4.toInt + 0)) + 16 := by
    obtain ⟨z, e6, e7⟩ := m3 ([(2, -1), (4, 520)], 16) (List.mem_of_getElem? (i := 1) rfl)
    obtain rfl : (-1 * x2.toInt + (520 * x4.toInt + 0)) = z := Option.some.inj (show some (-1 * x2.toInt + (520 * x4.toInt + 0)) = some z from e6)
    exact e7
  have l2 : 0 ≤ (1 * x4.toInt + (-56 * x8.toInt + 0)) + -4 := by
    obtain ⟨z, e6, e7⟩ := m3 ([(4, 1), (8, -56)], -4) (List.mem_of_getElem? (i := 2) rfl)
    obtain rfl : (1 * x4.toInt + (-56 * x8.toInt + 0)) = z := Option.some.inj (show some (1 * x4.toInt + (-56 * x8.toInt + 0)) = some z from e6)
    exact e7
  have l3 : 0 ≤ (-1 * x4.toInt + (56 * x8.toInt + 0)) + 4 := by
    obtain ⟨z, e6, e7⟩ := m3 ([(4, -1), (8, 56)], 4) (List.mem_of_getElem? (i := 3) rfl)
    obtain rfl : (-1 * x4.toInt + (56 * x8.toInt + 0)) = z := Option.some.inj (show some (-1 * x4.toInt + (56 * x8.toInt + 0)) = some z from e6)
    exact e7
  have l4 : 0 ≤ (1 * x1.toInt + (-1 * x3.toInt + 0)) + 0 := by
    obtain ⟨z, e6, e7⟩ := m3 ([(1, 1), (3, -1)], 0) (List.mem_of_getElem? (i := 4) rfl)
    obtain rfl : (1 * x1.toInt + (-1 * x3.toInt + 0)) = z := Option.some.inj (show some (1 * x1.toInt + (-1 * x3.toInt + 0)) = some z from e6)
    exact e7
  have f0 : fB K n p 1 [fR x7] σ := by
    obtain ⟨w, e6, e7⟩ := m4 (17, [7]) (List.mem_of_getElem? (i := 0) rfl)
    obtain rfl : [fR x7] = w := Option.some.inj (show some [fR x7] = some w from e6)
    exact (fF_b (r := 17) (by decide) rfl).mp e7
  have f1 : fB K n p 26 [fR x0, fI x3, fI x1, fI x4] σ := by
    obtain ⟨w, e6, e7⟩ := m4 (420, [0, 3, 1, 4]) (List.mem_of_getElem? (i := 1) rfl)
    obtain rfl : [fR x0, fI x3, fI x1, fI x4] = w := Option.some.inj (show some [fR x0, fI x3, fI x1, fI x4] = some w from e6)
    exact (fF_b (r := 420) (by decide) rfl).mp e7
  have f2 : fB K n p 36 [fI x4] σ := by
    obtain ⟨w, e6, e7⟩ := m4 (577, [4]) (List.mem_of_getElem? (i := 2) rfl)
    obtain rfl : [fI x4] = w := Option.some.inj (show some [fI x4] = some w from e6)
    exact (fF_b (r := 577) (by decide) rfl).mp e7
  have f3 : fB K n p 40 [fI x4, fI x5] σ := by
    obtain ⟨w, e6, e7⟩ := m4 (642, [4, 5]) (List.mem_of_getElem? (i := 3) rfl)
    obtain rfl : [fI x4, fI x5] = w := Option.some.inj (show some [fI x4, fI x5] = some w from e6)
    exact (fF_b (r := 642) (by decide) rfl).mp e7
  have f4 : fB K n p 41 [fI x4, fI x6] σ := by
    obtain ⟨w, e6, e7⟩ := m4 (658, [4, 6]) (List.mem_of_getElem? (i := 4) rfl)
    obtain rfl : [fI x4, fI x6] = w := Option.some.inj (show some [fI x4, fI x6] = some w from e6)
    exact (fF_b (r := 658) (by decide) rfl).mp e7
  have f5 : fB K n p 44 [fI x4] σ := by
    obtain ⟨w, e6, e7⟩ := m4 (705, [4]) (List.mem_of_getElem? (i := 5) rfl)
    obtain rfl : [fI x4] = w := Option.some.inj (show some [fI x4] = some w from e6)
    exact (fF_b (r := 705) (by decide) rfl).mp e7
  clear m1 m2 m3 m4
  have q0 : fB K n p 27 [fR x0, fI x3, fI x1, fI x4] (jup σ x0 (jsto (σ x0) x1.toNatClampNeg x2)) := by
    obtain ⟨a, e, h9, hg⟩ := f0
    cases e
    have hF := fAt_of h9 s0
    have hs := hF.2.1 _ t0
    obtain ⟨a, lo, hi, s, e, h0⟩ := f1
    cases e
    obtain ⟨s, e, h1⟩ := f2
    cases e
    obtain ⟨s, v, e, h2⟩ := f3
    cases e
    obtain ⟨s, v, e, h3⟩ := f4
    cases e
    obtain ⟨s, e, h4⟩ := f5
    cases e
    refine ⟨x0, x3, x1, x4, rfl, ?_⟩
    refine fLl_st h0 (fun _ => ?_) (fun k hk h9 => ?_)
    · have hm := fMk (m := x2) (f := x4.toInt) (t := x4.toInt + 2) (b := 0) (by omega) (by omega) (by omega) (by omega)
      have hf : fMf x2 = x4.toNatClampNeg := by rw [fNc]; omega
      have hc : (fMf x2 : Int) = 4 + 56 * ((fq p).2 2).toInt := by rw [← hs]; omega
      refine ⟨⟨6, by omega, by rw [hf]; exact h1, by omega, by omega, by omega, by omega, by omega, fun _ _ => ⟨hc, ?_, ?_, ?_⟩, by omega, by omega⟩, hf⟩
      · rw [show fMf x2 + 1 = (x4.toInt + 1).toNat by omega, h2]; omega
      · rw [show fMf x2 + 2 = (x4.toInt + 2).toNat by omega, h3]; omega
      · rw [show fMf x2 + 3 = (x4.toInt + 3).toNat by omega]; exact h4
    · rw [fNc] at hk
      omega
  refine ⟨p, fun _ => rfl, ⟨fun q h => (by cases h), fun q h => (by cases h), ?_, ?_⟩, [], List.mem_cons_self, fun f h => (by cases h)⟩
  · exact fun f h => by cases h
  · exact (aAllc ⟨_, rfl, fF_p (r := 436) (by decide) (by decide) rfl q0⟩ (fun f h => by cases h))
theorem rw_ruGClSI {K : Nat → Nat} {n : Nat} : aGho (fF K n) fa_T K n (fJX K n) ag_ruGClSI := by
  refine aGho_of ⟨rfl, rfl⟩ ?_
  intro p σ ρ hH hX hA hM
  have hG := aAG_of hA.1 (fun i e v he hv => (hA.2 i e v he hv).1)
  clear hA
  obtain ⟨v0, v1, v2, v3, v4, v5, v6, v7, v8, rfl, g0, g1, g2, g3, g4, g5, g6, g7, g8⟩ := fA_9 hG
  clear hG
  obtain ⟨x0, rfl, b0, d0⟩ := fG_ref (by decide) g0
  obtain ⟨x1, rfl, b1, d1⟩ := aG_int g1
  dsimp only at b1 d1
  obtain ⟨x2, rfl, b2, d2⟩ := aG_int g2
  dsimp only at b2 d2
  obtain ⟨x3, rfl, b3, d3⟩ := aG_int g3
  dsimp only at b3 d3
  obtain ⟨x4, rfl, b4, d4⟩ := aG_int g4
  dsimp only at b4 d4
  obtain ⟨x5, rfl, b5, d5⟩ := aG_int g5
  dsimp only at b5 d5
  obtain ⟨x6, rfl, b6, d6⟩ := aG_int g6
  dsimp only at b6 d6
  obtain ⟨x7, rfl, b7, d7⟩ := fG_ref (by decide) g7
  obtain ⟨x8, rfl, b8, d8⟩ := aG_int g8
  dsimp only at b8 d8
  obtain ⟨m1, m2, m3, m4⟩ := hM
  obtain ⟨a0, c0, fs0, w0, e1, s0, t0, e4⟩ := m1 (7, 2, 8) (List.mem_of_getElem? (i := 0) rfl)
  obtain rfl : x7 = a0 := Sum.inl.inj (Option.some.inj (Sum.inr.inj (Sum.inr.inj (Option.some.inj (show some (fR x7) = some _ from e1)))))
  obtain rfl : fI x8 = w0 := Option.some.inj (show some (fI x8) = some _ from e4)
  clear e1 e4
  have l0 : 0 ≤ (1 * x2.toInt + (-520 * x4.toInt + 0)) + 16 := by
    obtain ⟨z, e6, e7⟩ := m3 ([(2, 1), (4, -520)], 16) (List.mem_of_getElem? (i := 0) rfl)
    obtain rfl : (1 * x2.toInt + (-520 * x4.toInt + 0)) = z := Option.some.inj (show some (1 * x2.toInt + (-520 * x4.toInt + 0)) = some z from e6)
    exact e7
  have l1 : 0 ≤ (-1 * x2.toInt + (520 * x4.toInt + 0)) + -16 := by
    obtain ⟨z, e6, e7⟩ := m3 ([(2, -1), (4, 520)], -16) (List.mem_of_getElem? (i := 1) rfl)
    obtain rfl : (-1 * x2.toInt + (520 * x4.toInt + 0)) = z := Option.some.inj (show some (-1 * x2.toInt + (520 * x4.toInt + 0)) = some z from e6)
    exact e7
  have l2 : 0 ≤ (1 * x4.toInt + (-56 * x8.toInt + 0)) + -4 := by
    obtain ⟨z, e6, e7⟩ := m3 ([(4, 1), (8, -56)], -4) (List.mem_of_getElem? (i := 2) rfl)
    obtain rfl : (1 * x4.toInt + (-56 * x8.toInt + 0)) = z := Option.some.inj (show some (1 * x4.toInt + (-56 * x8.toInt + 0)) = some z from e6)
    exact e7
  have l3 : 0 ≤ (-1 * x4.toInt + (56 * x8.toInt + 0)) + 4 := by
    obtain ⟨z, e6, e7⟩ := m3 ([(4, -1), (8, 56)], 4) (List.mem_of_getElem? (i := 3) rfl)
    obtain rfl : (-1 * x4.toInt + (56 * x8.toInt + 0)) = z := Option.some.inj (show some (-1 * x4.toInt + (56 * x8.toInt + 0)) = some z from e6)
    exact e7
  have l4 : 0 ≤ (1 * x1.toInt + (-1 * x3.toInt + 0)) + 0 := by
    obtain ⟨z, e6, e7⟩ := m3 ([(1, 1), (3, -1)], 0) (List.mem_of_getElem? (i := 4) rfl)
    obtain rfl : (1 * x1.toInt + (-1 * x3.toInt + 0)) = z := Option.some.inj (show some (1 * x1.toInt + (-1 * x3.toInt + 0)) = some z from e6)
    exact e7
  have f0 : fB K n p 1 [fR x7] σ := by
    obtain ⟨w, e6, e7⟩ := m4 (17, [7]) (List.mem_of_getElem? (i := 0) rfl)
    obtain rfl : [fR x7] = w := Option.some.inj (show some [fR x7] = some w from e6)
    exact (fF_b (r := 17) (by decide) rfl).mp e7
  have f1 : fB K n p 26 [fR x0, fI x3, fI x1, fI x4] σ := by
    obtain ⟨w, e6, e7⟩ := m4 (420, [0, 3, 1, 4]) (List.mem_of_getElem? (i := 1) rfl)
    obtain rfl : [fR x0, fI x3, fI x1, fI x4] = w := Option.some.inj (show some [fR x0, fI x3, fI x1, fI x4] = some w from e6)
    exact (fF_b (r := 420) (by decide) rfl).mp e7
  have f2 : fB K n p 36 [fI x4] σ := by
    obtain ⟨w, e6, e7⟩ := m4 (577, [4]) (List.mem_of_getElem? (i := 2) rfl)
    obtain rfl : [fI x4] = w := Option.some.inj (show some [fI x4] = some w from e6)
    exact (fF_b (r := 577) (by decide) rfl).mp e7
  have f3 : fB K n p 42 [fI x4, fI x5] σ := by
    obtain ⟨w, e6, e7⟩ := m4 (674, [4, 5]) (List.mem_of_getElem? (i := 3) rfl)
    obtain rfl : [fI x4, fI x5] = w := Option.some.inj (show some [fI x4, fI x5] = some w from e6)
    exact (fF_b (r := 674) (by decide) rfl).mp e7
  have f4 : fB K n p 43 [fI x4, fI x6] σ := by
    obtain ⟨w, e6, e7⟩ := m4 (690, [4, 6]) (List.mem_of_getElem? (i := 4) rfl)
    obtain rfl : [fI x4, fI x6] = w := Option.some.inj (show some [fI x4, fI x6] = some w from e6)
    exact (fF_b (r := 690) (by decide) rfl).mp e7
  have f5 : fB K n p 45 [fI x4] σ := by
    obtain ⟨w, e6, e7⟩ := m4 (721, [4]) (List.mem_of_getElem? (i := 5) rfl)
    obtain rfl : [fI x4] = w := Option.some.inj (show some [fI x4] = some w from e6)
    exact (fF_b (r := 721) (by decide) rfl).mp e7
  clear m1 m2 m3 m4
  have q0 : fB K n p 27 [fR x0, fI x3, fI x1, fI x4] (jup σ x0 (jsto (σ x0) x1.toNatClampNeg x2)) := by
    obtain ⟨a, e, h9, hg⟩ := f0
    cases e
    have hF := fAt_of h9 s0
    have hs := hF.2.1 _ t0
    obtain ⟨a, lo, hi, s, e, h0⟩ := f1
    cases e
    obtain ⟨s, e, h1⟩ := f2
    cases e
    obtain ⟨s, v, e, h2⟩ := f3
    cases e
    obtain ⟨s, v, e, h3⟩ := f4
    cases e
    obtain ⟨s, e, h4⟩ := f5
    cases e
    refine ⟨x0, x3, x1, x4, rfl, ?_⟩
    refine fLl_st h0 (fun _ => ?_) (fun k hk h9 => ?_)
    · have hm := fMk (m := x2) (f := x4.toInt) (t := x4.toInt - 2) (b := 0) (by omega) (by omega) (by omega) (by omega)
      have hf : fMf x2 = x4.toNatClampNeg := by rw [fNc]; omega
      have hc : (fMf x2 : Int) = 4 + 56 * ((fq p).2 2).toInt := by rw [← hs]; omega
      refine ⟨⟨6, by omega, by rw [hf]; exact h1, by omega, by omega, by omega, by omega, by omega, by omega, fun _ _ => ⟨hc, ?_, ?_, ?_⟩, by omega⟩, hf⟩
      · rw [show fMf x2 - 1 = (x4.toInt - 1).toNat by omega, h2]; omega
      · rw [show fMf x2 - 2 = (x4.toInt - 2).toNat by omega, h3]; omega
      · rw [show fMf x2 - 4 = (x4.toInt - 4).toNat by omega]; exact h4
    · rw [fNc] at hk
      omega
  refine ⟨p, fun _ => rfl, ⟨fun q h => (by cases h), fun q h => (by cases h), ?_, ?_⟩, [], List.mem_cons_self, fun f h => (by cases h)⟩
  · exact fun f h => by cases h
  · exact (aAllc ⟨_, rfl, fF_p (r := 436) (by decide) (by decide) rfl q0⟩ (fun f h => by cases h))
theorem rw_ruGPuSI {K : Nat → Nat} {n : Nat} : aGho (fF K n) fa_T K n (fJX K n) ag_ruGPuSI := by
  refine aGho_of ⟨rfl, rfl⟩ ?_
  intro p σ ρ hH hX hA hM
  have hG := aAG_of hA.1 (fun i e v he hv => (hA.2 i e v he hv).1)
  clear hA
  obtain ⟨v0, v1, v2, v3, v4, v5, v6, v7, rfl, g0, g1, g2, g3, g4, g5, g6, g7⟩ := fA_8 hG
  clear hG
  obtain ⟨x0, rfl, b0, d0⟩ := fG_ref (by decide) g0
  obtain ⟨x1, rfl, b1, d1⟩ := aG_int g1
  dsimp only at b1 d1
  obtain ⟨x2, rfl, b2, d2⟩ := aG_int g2
  dsimp only at b2 d2
  obtain ⟨x3, rfl, b3, d3⟩ := aG_int g3
  dsimp only at b3 d3
  obtain ⟨x4, rfl, b4, d4⟩ := aG_int g4
  dsimp only at b4 d4
  obtain ⟨x5, rfl, b5, d5⟩ := aG_int g5
  dsimp only at b5 d5
  obtain ⟨x6, rfl, b6, d6⟩ := aG_int g6
  dsimp only at b6 d6
  obtain ⟨x7, rfl, b7, d7⟩ := aG_int g7
  dsimp only at b7 d7
  obtain ⟨m1, m2, m3, m4⟩ := hM
  have l0 : 0 ≤ (1 * x2.toInt + (-512 * x4.toInt + (-8 * x5.toInt + (-1 * x6.toInt + 0)))) + 0 := by
    obtain ⟨z, e6, e7⟩ := m3 ([(2, 1), (4, -512), (5, -8), (6, -1)], 0) (List.mem_of_getElem? (i := 0) rfl)
    obtain rfl : (1 * x2.toInt + (-512 * x4.toInt + (-8 * x5.toInt + (-1 * x6.toInt + 0)))) = z := Option.some.inj (show some (1 * x2.toInt + (-512 * x4.toInt + (-8 * x5.toInt + (-1 * x6.toInt + 0)))) = some z from e6)
    exact e7
  have l1 : 0 ≤ (-1 * x2.toInt + (512 * x4.toInt + (8 * x5.toInt + (1 * x6.toInt + 0)))) + 0 := by
    obtain ⟨z, e6, e7⟩ := m3 ([(2, -1), (4, 512), (5, 8), (6, 1)], 0) (List.mem_of_getElem? (i := 1) rfl)
    obtain rfl : (-1 * x2.toInt + (512 * x4.toInt + (8 * x5.toInt + (1 * x6.toInt + 0)))) = z := Option.some.inj (show some (-1 * x2.toInt + (512 * x4.toInt + (8 * x5.toInt + (1 * x6.toInt + 0)))) = some z from e6)
    exact e7
  have l2 : 0 ≤ (1 * x6.toInt + (-2 * x7.toInt + 0)) + 0 := by
    obtain ⟨z, e6, e7⟩ := m3 ([(6, 1), (7, -2)], 0) (List.mem_of_getElem? (i := 2) rfl)
    obtain rfl : (1 * x6.toInt + (-2 * x7.toInt + 0)) = z := Option.some.inj (show some (1 * x6.toInt + (-2 * x7.toInt + 0)) = some z from e6)
    exact e7
  have l3 : 0 ≤ (-1 * x6.toInt + (5 * x7.toInt + 0)) + 0 := by
    obtain ⟨z, e6, e7⟩ := m3 ([(6, -1), (7, 5)], 0) (List.mem_of_getElem? (i := 3) rfl)
    obtain rfl : (-1 * x6.toInt + (5 * x7.toInt + 0)) = z := Option.some.inj (show some (-1 * x6.toInt + (5 * x7.toInt + 0)) = some z from e6)
    exact e7
  have l4 : 0 ≤ (1 * x1.toInt + (-1 * x3.toInt + 0)) + 0 := by
    obtain ⟨z, e6, e7⟩ := m3 ([(1, 1), (3, -1)], 0) (List.mem_of_getElem? (i := 4) rfl)
    obtain rfl : (1 * x1.toInt + (-1 * x3.toInt + 0)) = z := Option.some.inj (show some (1 * x1.toInt + (-1 * x3.toInt + 0)) = some z from e6)
    exact e7
  have l5 : 0 ≤ (1 * x5.toInt + (-1 * x4.toInt + 0)) + -7 := by
    obtain ⟨z, e6, e7⟩ := m3 ([(5, 1), (4, -1)], -7) (List.mem_of_getElem? (i := 5) rfl)
    obtain rfl : (1 * x5.toInt + (-1 * x4.toInt + 0)) = z := Option.some.inj (show some (1 * x5.toInt + (-1 * x4.toInt + 0)) = some z from e6)
    exact e7
  have l6 : 0 ≤ (-1 * x5.toInt + (1 * x4.toInt + 0)) + 9 := by
    obtain ⟨z, e6, e7⟩ := m3 ([(5, -1), (4, 1)], 9) (List.mem_of_getElem? (i := 6) rfl)
    obtain rfl : (-1 * x5.toInt + (1 * x4.toInt + 0)) = z := Option.some.inj (show some (-1 * x5.toInt + (1 * x4.toInt + 0)) = some z from e6)
    exact e7
  have l7 : 0 ≤ (1 * x5.toInt + (8 * x7.toInt + 0)) + -8 := by
    obtain ⟨z, e6, e7⟩ := m3 ([(5, 1), (7, 8)], -8) (List.mem_of_getElem? (i := 7) rfl)
    obtain rfl : (1 * x5.toInt + (8 * x7.toInt + 0)) = z := Option.some.inj (show some (1 * x5.toInt + (8 * x7.toInt + 0)) = some z from e6)
    exact e7
  have l8 : 0 ≤ (-1 * x5.toInt + (8 * x7.toInt + 0)) + 55 := by
    obtain ⟨z, e6, e7⟩ := m3 ([(5, -1), (7, 8)], 55) (List.mem_of_getElem? (i := 8) rfl)
    obtain rfl : (-1 * x5.toInt + (8 * x7.toInt + 0)) = z := Option.some.inj (show some (-1 * x5.toInt + (8 * x7.toInt + 0)) = some z from e6)
    exact e7
  have f0 : fB K n p 26 [fR x0, fI x3, fI x1, fI x4] σ := by
    obtain ⟨w, e6, e7⟩ := m4 (420, [0, 3, 1, 4]) (List.mem_of_getElem? (i := 0) rfl)
    obtain rfl : [fR x0, fI x3, fI x1, fI x4] = w := Option.some.inj (show some [fR x0, fI x3, fI x1, fI x4] = some w from e6)
    exact (fF_b (r := 420) (by decide) rfl).mp e7
  have f1 : fB K n p 34 [fI x4] σ := by
    obtain ⟨w, e6, e7⟩ := m4 (545, [4]) (List.mem_of_getElem? (i := 1) rfl)
    obtain rfl : [fI x4] = w := Option.some.inj (show some [fI x4] = some w from e6)
    exact (fF_b (r := 545) (by decide) rfl).mp e7
  clear m1 m2 m3 m4
  have q0 : fB K n p 27 [fR x0, fI x3, fI x1, fI x4] (jup σ x0 (jsto (σ x0) x1.toNatClampNeg x2)) := by
    obtain ⟨a, lo, hi, s, e, h0⟩ := f0
    cases e
    obtain ⟨s, e, h1⟩ := f1
    cases e
    refine ⟨x0, x3, x1, x4, rfl, ?_⟩
    refine fLl_st h0 (fun _ => ?_) (fun k hk h9 => ?_)
    · have hm := fMk (m := x2) (f := x4.toInt) (t := x5.toInt) (b := x6.toInt) (by omega) (by omega) (by omega) (by omega)
      have hf : fMf x2 = x4.toNatClampNeg := by rw [fNc]; omega
      refine ⟨⟨1, by omega, by rw [hf]; exact h1, by omega, by omega, by omega, by omega, by omega, by omega, by omega, by omega⟩, hf⟩
    · rw [fNc] at hk
      omega
  refine ⟨p, fun _ => rfl, ⟨fun q h => (by cases h), fun q h => (by cases h), ?_, ?_⟩, [], List.mem_cons_self, fun f h => (by cases h)⟩
  · exact fun f h => by cases h
  · exact (aAllc ⟨_, rfl, fF_p (r := 436) (by decide) (by decide) rfl q0⟩ (fun f h => by cases h))
theorem rw_ruGPdSI {K : Nat → Nat} {n : Nat} : aGho (fF K n) fa_T K n (fJX K n) ag_ruGPdSI := by
  refine aGho_of ⟨rfl, rfl⟩ ?_
  intro p σ ρ hH hX hA hM
  have hG := aAG_of hA.1 (fun i e v he hv => (hA.2 i e v he hv).1)
  clear hA
  obtain ⟨v0, v1, v2, v3, v4, v5, v6, v7, rfl, g0, g1, g2, g3, g4, g5, g6, g7⟩ := fA_8 hG
  clear hG
  obtain ⟨x0, rfl, b0, d0⟩ := fG_ref (by decide) g0
  obtain ⟨x1, rfl, b1, d1⟩ := aG_int g1
  dsimp only at b1 d1
  obtain ⟨x2, rfl, b2, d2⟩ := aG_int g2
  dsimp only at b2 d2
  obtain ⟨x3, rfl, b3, d3⟩ := aG_int g3
  dsimp only at b3 d3
  obtain ⟨x4, rfl, b4, d4⟩ := aG_int g4
  dsimp only at b4 d4
  obtain ⟨x5, rfl, b5, d5⟩ := aG_int g5
  dsimp only at b5 d5
  obtain ⟨x6, rfl, b6, d6⟩ := aG_int g6
  dsimp only at b6 d6
  obtain ⟨x7, rfl, b7, d7⟩ := aG_int g7
  dsimp only at b7 d7
  obtain ⟨m1, m2, m3, m4⟩ := hM
  have l0 : 0 ≤ (1 * x2.toInt + (-512 * x4.toInt + (-8 * x5.toInt + (-1 * x6.toInt + 0)))) + 0 := by
    obtain ⟨z, e6, e7⟩ := m3 ([(2, 1), (4, -512), (5, -8), (6, -1)], 0) (List.mem_of_getElem? (i := 0) rfl)
    obtain rfl : (1 * x2.toInt + (-512 * x4.toInt + (-8 * x5.toInt + (-1 * x6.toInt + 0)))) = z := Option.some.inj (show some (1 * x2.toInt + (-512 * x4.toInt + (-8 * x5.toInt + (-1 * x6.toInt + 0)))) = some z from e6)
    exact e7
  have l1 : 0 ≤ (-1 * x2.toInt + (512 * x4.toInt + (8 * x5.toInt + (1 * x6.toInt + 0)))) + 0 := by
    obtain ⟨z, e6, e7⟩ := m3 ([(2, -1), (4, 512), (5, 8), (6, 1)], 0) (List.mem_of_getElem? (i := 1) rfl)
    obtain rfl : (-1 * x2.toInt + (512 * x4.toInt + (8 * x5.toInt + (1 * x6.toInt + 0)))) = z := Option.some.inj (show some (-1 * x2.toInt + (512 * x4.toInt + (8 * x5.toInt + (1 * x6.toInt + 0)))) = some z from e6)
    exact e7
  have l2 : 0 ≤ (1 * x6.toInt + (-2 * x7.toInt + 0)) + 0 := by
    obtain ⟨z, e6, e7⟩ := m3 ([(6, 1), (7, -2)], 0) (List.mem_of_getElem? (i := 2) rfl)
    obtain rfl : (1 * x6.toInt + (-2 * x7.toInt + 0)) = z := Option.some.inj (show some (1 * x6.toInt + (-2 * x7.toInt + 0)) = some z from e6)
    exact e7
  have l3 : 0 ≤ (-1 * x6.toInt + (5 * x7.toInt + 0)) + 0 := by
    obtain ⟨z, e6, e7⟩ := m3 ([(6, -1), (7, 5)], 0) (List.mem_of_getElem? (i := 3) rfl)
    obtain rfl : (-1 * x6.toInt + (5 * x7.toInt + 0)) = z := Option.some.inj (show some (-1 * x6.toInt + (5 * x7.toInt + 0)) = some z from e6)
    exact e7
  have l4 : 0 ≤ (1 * x1.toInt + (-1 * x3.toInt + 0)) + 0 := by
    obtain ⟨z, e6, e7⟩ := m3 ([(1, 1), (3, -1)], 0) (List.mem_of_getElem? (i := 4) rfl)
    obtain rfl : (1 * x1.toInt + (-1 * x3.toInt + 0)) = z := Option.some.inj (show some (1 * x1.toInt + (-1 * x3.toInt + 0)) = some z from e6)
    exact e7
  have l5 : 0 ≤ (-1 * x5.toInt + (1 * x4.toInt + 0)) + -7 := by
    obtain ⟨z, e6, e7⟩ := m3 ([(5, -1), (4, 1)], -7) (List.mem_of_getElem? (i := 5) rfl)
    obtain rfl : (-1 * x5.toInt + (1 * x4.toInt + 0)) = z := Option.some.inj (show some (-1 * x5.toInt + (1 * x4.toInt + 0)) = some z from e6)
    exact e7
  have l6 : 0 ≤ (1 * x5.toInt + (-1 * x4.toInt + 0)) + 9 := by
    obtain ⟨z, e6, e7⟩ := m3 ([(5, 1), (4, -1)], 9) (List.mem_of_getElem? (i := 6) rfl)
    obtain rfl : (1 * x5.toInt + (-1 * x4.toInt + 0)) = z := Option.some.inj (show some (1 * x5.toInt + (-1 * x4.toInt + 0)) = some z from e6)
    exact e7
  have l7 : 0 ≤ (1 * x5.toInt + (8 * x7.toInt + 0)) + -8 := by
    obtain ⟨z, e6, e7⟩ := m3 ([(5, 1), (7, 8)], -8) (List.mem_of_getElem? (i := 7) rfl)
    obtain rfl : (1 * x5.toInt + (8 * x7.toInt + 0)) = z := Option.some.inj (show some (1 * x5.toInt + (8 * x7.toInt + 0)) = some z from e6)
    exact e7
  have l8 : 0 ≤ (-1 * x5.toInt + (8 * x7.toInt + 0)) + 55 := by
    obtain ⟨z, e6, e7⟩ := m3 ([(5, -1), (7, 8)], 55) (List.mem_of_getElem? (i := 8) rfl)
    obtain rfl : (-1 * x5.toInt + (8 * x7.toInt + 0)) = z := Option.some.inj (show some (-1 * x5.toInt + (8 * x7.toInt + 0)) = some z from e6)
    exact e7
  have f0 : fB K n p 26 [fR x0, fI x3, fI x1, fI x4] σ := by
    obtain ⟨w, e6, e7⟩ := m4 (420, [0, 3, 1, 4]) (List.mem_of_getElem? (i := 0) rfl)
    obtain rfl : [fR x0, fI x3, fI x1, fI x4] = w := Option.some.inj (show some [fR x0, fI x3, fI x1, fI x4] = some w from e6)
    exact (fF_b (r := 420) (by decide) rfl).mp e7
  have f1 : fB K n p 34 [fI x4] σ := by
    obtain ⟨w, e6, e7⟩ := m4 (545, [4]) (List.mem_of_getElem? (i := 1) rfl)
    obtain rfl : [fI x4] = w := Option.some.inj (show some [fI x4] = some w from e6)
    exact (fF_b (r := 545) (by decide) rfl).mp e7
  clear m1 m2 m3 m4
  have q0 : fB K n p 27 [fR x0, fI x3, fI x1, fI x4] (jup σ x0 (jsto (σ x0) x1.toNatClampNeg x2)) := by
    obtain ⟨a, lo, hi, s, e, h0⟩ := f0
    cases e
    obtain ⟨s, e, h1⟩ := f1
    cases e
    refine ⟨x0, x3, x1, x4, rfl, ?_⟩
    refine fLl_st h0 (fun _ => ?_) (fun k hk h9 => ?_)
    · have hm := fMk (m := x2) (f := x4.toInt) (t := x5.toInt) (b := x6.toInt) (by omega) (by omega) (by omega) (by omega)
      have hf : fMf x2 = x4.toNatClampNeg := by rw [fNc]; omega
      refine ⟨⟨1, by omega, by rw [hf]; exact h1, by omega, by omega, by omega, by omega, by omega, by omega, by omega, by omega⟩, hf⟩
    · rw [fNc] at hk
      omega
  refine ⟨p, fun _ => rfl, ⟨fun q h => (by cases h), fun q h => (by cases h), ?_, ?_⟩, [], List.mem_cons_self, fun f h => (by cases h)⟩
  · exact fun f h => by cases h
  · exact (aAllc ⟨_, rfl, fF_p (r := 436) (by decide) (by decide) rfl q0⟩ (fun f h => by cases h))
theorem rw_ruGDSI {K : Nat → Nat} {n : Nat} : aGho (fF K n) fa_T K n (fJX K n) ag_ruGDSI := by
  refine aGho_of ⟨rfl, rfl⟩ ?_
  intro p σ ρ hH hX hA hM
  have hG := aAG_of hA.1 (fun i e v he hv => (hA.2 i e v he hv).1)
  clear hA
  obtain ⟨v0, v1, v2, v3, v4, v5, v6, v7, v8, rfl, g0, g1, g2, g3, g4, g5, g6, g7, g8⟩ := fA_9 hG
  clear hG
  obtain ⟨x0, rfl, b0, d0⟩ := fG_ref (by decide) g0
  obtain ⟨x1, rfl, b1, d1⟩ := aG_int g1
  dsimp only at b1 d1
  obtain ⟨x2, rfl, b2, d2⟩ := aG_int g2
  dsimp only at b2 d2
  obtain ⟨x3, rfl, b3, d3⟩ := aG_int g3
  dsimp only at b3 d3
  obtain ⟨x4, rfl, b4, d4⟩ := aG_int g4
  dsimp only at b4 d4
  obtain ⟨x5, rfl, b5, d5⟩ := fG_ref (by decide) g5
  obtain ⟨x6, rfl, b6, d6⟩ := aG_int g6
  dsimp only at b6 d6
  obtain ⟨x7, rfl, b7, d7⟩ := aG_int g7
  dsimp only at b7 d7
  obtain ⟨x8, rfl, b8, d8⟩ := aG_int g8
  dsimp only at b8 d8
  obtain ⟨m1, m2, m3, m4⟩ := hM
  obtain ⟨a0, c0, fs0, w0, e1, s0, t0, e4⟩ := m1 (5, 2, 8) (List.mem_of_getElem? (i := 0) rfl)
  obtain rfl : x5 = a0 := Sum.inl.inj (Option.some.inj (Sum.inr.inj (Sum.inr.inj (Option.some.inj (show some (fR x5) = some _ from e1)))))
  obtain rfl : fI x8 = w0 := Option.some.inj (show some (fI x8) = some _ from e4)
  clear e1 e4
  have l0 : 0 ≤ (1 * x2.toInt + (-504 * x4.toInt + (-16 * x6.toInt + 0))) + 0 := by
    obtain ⟨z, e6, e7⟩ := m3 ([(2, 1), (4, -504), (6, -16)], 0) (List.mem_of_getElem? (i := 0) rfl)
    obtain rfl : (1 * x2.toInt + (-504 * x4.toInt + (-16 * x6.toInt + 0))) = z := Option.some.inj (show some (1 * x2.toInt + (-504 * x4.toInt + (-16 * x6.toInt + 0))) = some z from e6)
    exact e7
  have l1 : 0 ≤ (-1 * x2.toInt + (504 * x4.toInt + (16 * x6.toInt + 0))) + 0 := by
    obtain ⟨z, e6, e7⟩ := m3 ([(2, -1), (4, 504), (6, 16)], 0) (List.mem_of_getElem? (i := 1) rfl)
    obtain rfl : (-1 * x2.toInt + (504 * x4.toInt + (16 * x6.toInt + 0))) = z := Option.some.inj (show some (-1 * x2.toInt + (504 * x4.toInt + (16 * x6.toInt + 0))) = some z from e6)
    exact e7
  have l2 : 0 ≤ (1 * x1.toInt + (-1 * x3.toInt + 0)) + 0 := by
    obtain ⟨z, e6, e7⟩ := m3 ([(1, 1), (3, -1)], 0) (List.mem_of_getElem? (i := 2) rfl)
    obtain rfl : (1 * x1.toInt + (-1 * x3.toInt + 0)) = z := Option.some.inj (show some (1 * x1.toInt + (-1 * x3.toInt + 0)) = some z from e6)
    exact e7
  have l3 : 0 ≤ (1 * x6.toInt + (-1 * x4.toInt + (16 * x8.toInt + 0))) + -8 := by
    obtain ⟨z, e6, e7⟩ := m3 ([(6, 1), (4, -1), (8, 16)], -8) (List.mem_of_getElem? (i := 3) rfl)
    obtain rfl : (1 * x6.toInt + (-1 * x4.toInt + (16 * x8.toInt + 0))) = z := Option.some.inj (show some (1 * x6.toInt + (-1 * x4.toInt + (16 * x8.toInt + 0))) = some z from e6)
    exact e7
  have l4 : 0 ≤ (-1 * x6.toInt + (1 * x4.toInt + (-16 * x8.toInt + 0))) + 8 := by
    obtain ⟨z, e6, e7⟩ := m3 ([(6, -1), (4, 1), (8, -16)], 8) (List.mem_of_getElem? (i := 4) rfl)
    obtain rfl : (-1 * x6.toInt + (1 * x4.toInt + (-16 * x8.toInt + 0))) = z := Option.some.inj (show some (-1 * x6.toInt + (1 * x4.toInt + (-16 * x8.toInt + 0))) = some z from e6)
    exact e7
  have l5 : 0 ≤ (1 * x4.toInt + (-40 * x8.toInt + 0)) + -8 := by
    obtain ⟨z, e6, e7⟩ := m3 ([(4, 1), (8, -40)], -8) (List.mem_of_getElem? (i := 5) rfl)
    obtain rfl : (1 * x4.toInt + (-40 * x8.toInt + 0)) = z := Option.some.inj (show some (1 * x4.toInt + (-40 * x8.toInt + 0)) = some z from e6)
    exact e7
  have l6 : 0 ≤ (-1 * x4.toInt + (40 * x8.toInt + 0)) + 15 := by
    obtain ⟨z, e6, e7⟩ := m3 ([(4, -1), (8, 40)], 15) (List.mem_of_getElem? (i := 6) rfl)
    obtain rfl : (-1 * x4.toInt + (40 * x8.toInt + 0)) = z := Option.some.inj (show some (-1 * x4.toInt + (40 * x8.toInt + 0)) = some z from e6)
    exact e7
  have f0 : fB K n p 1 [fR x5] σ := by
    obtain ⟨w, e6, e7⟩ := m4 (17, [5]) (List.mem_of_getElem? (i := 0) rfl)
    obtain rfl : [fR x5] = w := Option.some.inj (show some [fR x5] = some w from e6)
    exact (fF_b (r := 17) (by decide) rfl).mp e7
  have f1 : fB K n p 26 [fR x0, fI x3, fI x1, fI x4] σ := by
    obtain ⟨w, e6, e7⟩ := m4 (420, [0, 3, 1, 4]) (List.mem_of_getElem? (i := 1) rfl)
    obtain rfl : [fR x0, fI x3, fI x1, fI x4] = w := Option.some.inj (show some [fR x0, fI x3, fI x1, fI x4] = some w from e6)
    exact (fF_b (r := 420) (by decide) rfl).mp e7
  have f2 : fB K n p 34 [fI x4] σ := by
    obtain ⟨w, e6, e7⟩ := m4 (545, [4]) (List.mem_of_getElem? (i := 2) rfl)
    obtain rfl : [fI x4] = w := Option.some.inj (show some [fI x4] = some w from e6)
    exact (fF_b (r := 545) (by decide) rfl).mp e7
  have f3 : fB K n p 39 [fI x6, fI x7] σ := by
    obtain ⟨w, e6, e7⟩ := m4 (626, [6, 7]) (List.mem_of_getElem? (i := 3) rfl)
    obtain rfl : [fI x6, fI x7] = w := Option.some.inj (show some [fI x6, fI x7] = some w from e6)
    exact (fF_b (r := 626) (by decide) rfl).mp e7
  clear m1 m2 m3 m4
  have q0 : fB K n p 27 [fR x0, fI x3, fI x1, fI x4] (jup σ x0 (jsto (σ x0) x1.toNatClampNeg x2)) := by
    obtain ⟨a, e, h9, hg⟩ := f0
    cases e
    have hF := fAt_of h9 s0
    have hs := hF.2.1 _ t0
    obtain ⟨a, lo, hi, s, e, h0⟩ := f1
    cases e
    obtain ⟨s, e, h1⟩ := f2
    cases e
    obtain ⟨s, v, e, h2⟩ := f3
    cases e
    refine ⟨x0, x3, x1, x4, rfl, ?_⟩
    refine fLl_st h0 (fun _ => ?_) (fun k hk h9 => ?_)
    · have hm := fMk (m := x2) (f := x4.toInt) (t := 2 * x6.toInt - x4.toInt) (b := 0) (by omega) (by omega) (by omega) (by omega)
      have hf : fMf x2 = x4.toNatClampNeg := by rw [fNc]; omega
      have hz : ((fq p).1 x6.toNatClampNeg).toInt = 0 := by rw [h2]; omega
      refine ⟨⟨1, by omega, by rw [hf]; exact h1, by omega, by omega, by omega, by omega, by omega, by omega, by omega, fun _ _ => ⟨by omega, ?_, fun hq => ?_, fun hq => ?_⟩⟩, hf⟩
      · rw [show (fMf x2 + fMt x2) / 2 = x6.toNatClampNeg by rw [fNc]; omega]
        exact hz
      · rw [← hs] at hq
        omega
      · rw [← hs] at hq
        omega
    · rw [fNc] at hk
      omega
  refine ⟨p, fun _ => rfl, ⟨fun q h => (by cases h), fun q h => (by cases h), ?_, ?_⟩, [], List.mem_cons_self, fun f h => (by cases h)⟩
  · exact fun f h => by cases h
  · exact (aAllc ⟨_, rfl, fF_p (r := 436) (by decide) (by decide) rfl q0⟩ (fun f h => by cases h))
theorem rw_ruLL0SE {K : Nat → Nat} {n : Nat} : aGho (fF K n) fa_T K n (fJX K n) ag_ruLL0SE := by
  refine aGho_of ⟨rfl, rfl⟩ ?_
  intro p σ ρ hH hX hA hM
  have hG := aAG_of hA.1 (fun i e v he hv => (hA.2 i e v he hv).1)
  clear hA
  obtain ⟨v0, v1, v2, rfl, g0, g1, g2⟩ := fA_3 hG
  clear hG
  obtain ⟨x0, rfl, b0, d0⟩ := fG_ref (by decide) g0
  obtain ⟨x1, rfl, b1, d1⟩ := aG_int g1
  dsimp only at b1 d1
  obtain ⟨x2, rfl, b2, d2⟩ := aG_int g2
  dsimp only at b2 d2
  obtain ⟨m1, m2, m3, m4⟩ := hM
  clear m1 m2 m3 m4
  have q0 : fB K n p 26 [fR x0, fI x1, fI x1, fI x2] σ := by
    obtain ⟨g, h1⟩ := fRow hH b0 d0 rfl (by decide)
    exact ⟨x0, x1, x1, x2, rfl, b0, by unfold fRw; omega, _, g, h1, fun k hk => by dsimp only at hk; omega⟩
  refine ⟨p, fun _ => rfl, ⟨fun q h => (by cases h), fun q h => (by cases h), ?_, ?_⟩, [], List.mem_cons_self, fun f h => (by cases h)⟩
  · exact fun f h => by cases h
  · exact (aAllc ⟨_, rfl, (fF_b (r := 420) (by decide) rfl).mpr q0⟩ (fun f h => by cases h))
theorem rw_ruLXnSE {K : Nat → Nat} {n : Nat} : aGho (fF K n) fa_T K n (fJX K n) ag_ruLXnSE := by
  refine aGho_of ⟨rfl, rfl⟩ ?_
  intro p σ ρ hH hX hA hM
  have hG := aAG_of hA.1 (fun i e v he hv => (hA.2 i e v he hv).1)
  clear hA
  obtain ⟨v0, v1, v2, v3, v4, rfl, g0, g1, g2, g3, g4⟩ := fA_5 hG
  clear hG
  obtain ⟨x0, rfl, b0, d0⟩ := fG_ref (by decide) g0
  obtain ⟨x1, rfl, b1, d1⟩ := aG_int g1
  dsimp only at b1 d1
  obtain ⟨x2, rfl, b2, d2⟩ := aG_int g2
  dsimp only at b2 d2
  obtain ⟨x3, rfl, b3, d3⟩ := aG_int g3
  dsimp only at b3 d3
  obtain ⟨x4, rfl, b4, d4⟩ := aG_int g4
  dsimp only at b4 d4
  obtain ⟨m1, m2, m3, m4⟩ := hM
  have l0 : 0 ≤ (1 * x4.toInt + (-1 * x2.toInt + 0)) + -1 := by
    obtain ⟨z, e6, e7⟩ := m3 ([(4, 1), (2, -1)], -1) (List.mem_of_getElem? (i := 0) rfl)
    obtain rfl : (1 * x4.toInt + (-1 * x2.toInt + 0)) = z := Option.some.inj (show some (1 * x4.toInt + (-1 * x2.toInt + 0)) = some z from e6)
    exact e7
  have l1 : 0 ≤ (-1 * x4.toInt + (1 * x2.toInt + 0)) + 1 := by
    obtain ⟨z, e6, e7⟩ := m3 ([(4, -1), (2, 1)], 1) (List.mem_of_getElem? (i := 1) rfl)
    obtain rfl : (-1 * x4.toInt + (1 * x2.toInt + 0)) = z := Option.some.inj (show some (-1 * x4.toInt + (1 * x2.toInt + 0)) = some z from e6)
    exact e7
  have f0 : fB K n p 27 [fR x0, fI x1, fI x2, fI x3] σ := by
    obtain ⟨w, e6, e7⟩ := m4 (436, [0, 1, 2, 3]) (List.mem_of_getElem? (i := 0) rfl)
    obtain rfl : [fR x0, fI x1, fI x2, fI x3] = w := Option.some.inj (show some [fR x0, fI x1, fI x2, fI x3] = some w from e6)
    exact (fF_b (r := 436) (by decide) rfl).mp e7
  clear m1 m2 m3 m4
  have q0 : fB K n p 26 [fR x0, fI x1, fI x4, fI x3] σ := by
    obtain ⟨a, lo, hi, s, e, h1, h2, m, g, h3, h4⟩ := f0
    cases e
    exact ⟨x0, x1, x4, x3, rfl, h1, h2, m, g, h3, fun k hk => h4 k (by dsimp only at hk ⊢; omega)⟩
  refine ⟨p, fun _ => rfl, ⟨fun q h => (by cases h), fun q h => (by cases h), ?_, ?_⟩, [], List.mem_cons_self, fun f h => (by cases h)⟩
  · exact fun f h => by cases h
  · exact (aAllc ⟨_, rfl, (fF_b (r := 420) (by decide) rfl).mpr q0⟩ (fun f h => by cases h))
theorem rw_ruGSSE {K : Nat → Nat} {n : Nat} : aGho (fF K n) fa_T K n (fJX K n) ag_ruGSSE := by
  refine aGho_of ⟨rfl, rfl⟩ ?_
  intro p σ ρ hH hX hA hM
  have hG := aAG_of hA.1 (fun i e v he hv => (hA.2 i e v he hv).1)
  clear hA
  obtain ⟨v0, v1, v2, v3, v4, v5, v6, v7, v8, rfl, g0, g1, g2, g3, g4, g5, g6, g7, g8⟩ := fA_9 hG
  clear hG
  obtain ⟨x0, rfl, b0, d0⟩ := fG_ref (by decide) g0
  obtain ⟨x1, rfl, b1, d1⟩ := aG_int g1
  dsimp only at b1 d1
  obtain ⟨x2, rfl, b2, d2⟩ := aG_int g2
  dsimp only at b2 d2
  obtain ⟨x3, rfl, b3, d3⟩ := aG_int g3
  dsimp only at b3 d3
  obtain ⟨x4, rfl, b4, d4⟩ := aG_int g4
  dsimp only at b4 d4
  obtain ⟨x5, rfl, b5, d5⟩ := aG_int g5
  dsimp only at b5 d5
  obtain ⟨x6, rfl, b6, d6⟩ := aG_int g6
  dsimp only at b6 d6
  obtain ⟨x7, rfl, b7, d7⟩ := aG_int g7
  dsimp only at b7 d7
  obtain ⟨x8, rfl, b8, d8⟩ := aG_int g8
  dsimp only at b8 d8
  obtain ⟨m1, m2, m3, m4⟩ := hM
  have l0 : 0 ≤ (1 * x2.toInt + (-512 * x4.toInt + (-8 * x5.toInt + 0))) + 0 := by
    obtain ⟨z, e6, e7⟩ := m3 ([(2, 1), (4, -512), (5, -8)], 0) (List.mem_of_getElem? (i := 0) rfl)
    obtain rfl : (1 * x2.toInt + (-512 * x4.toInt + (-8 * x5.toInt + 0))) = z := Option.some.inj (show some (1 * x2.toInt + (-512 * x4.toInt + (-8 * x5.toInt + 0))) = some z from e6)
    exact e7
  have l1 : 0 ≤ (-1 * x2.toInt + (512 * x4.toInt + (8 * x5.toInt + 0))) + 0 := by
    obtain ⟨z, e6, e7⟩ := m3 ([(2, -1), (4, 512), (5, 8)], 0) (List.mem_of_getElem? (i := 1) rfl)
    obtain rfl : (-1 * x2.toInt + (512 * x4.toInt + (8 * x5.toInt + 0))) = z := Option.some.inj (show some (-1 * x2.toInt + (512 * x4.toInt + (8 * x5.toInt + 0))) = some z from e6)
    exact e7
  have l2 : 0 ≤ (1 * x1.toInt + (-1 * x3.toInt + 0)) + 0 := by
    obtain ⟨z, e6, e7⟩ := m3 ([(1, 1), (3, -1)], 0) (List.mem_of_getElem? (i := 2) rfl)
    obtain rfl : (1 * x1.toInt + (-1 * x3.toInt + 0)) = z := Option.some.inj (show some (1 * x1.toInt + (-1 * x3.toInt + 0)) = some z from e6)
    exact e7
  have f0 : fB K n p 26 [fR x0, fI x3, fI x1, fI x4] σ := by
    obtain ⟨w, e6, e7⟩ := m4 (420, [0, 3, 1, 4]) (List.mem_of_getElem? (i := 0) rfl)
    obtain rfl : [fR x0, fI x3, fI x1, fI x4] = w := Option.some.inj (show some [fR x0, fI x3, fI x1, fI x4] = some w from e6)
    exact (fF_b (r := 420) (by decide) rfl).mp e7
  have f1 : fB K n p 25 [fI x4, fI x6] σ := by
    obtain ⟨w, e6, e7⟩ := m4 (402, [4, 6]) (List.mem_of_getElem? (i := 1) rfl)
    obtain rfl : [fI x4, fI x6] = w := Option.some.inj (show some [fI x4, fI x6] = some w from e6)
    exact (fF_b (r := 402) (by decide) rfl).mp e7
  have f2 : fB K n p 31 [fI x6] σ := by
    obtain ⟨w, e6, e7⟩ := m4 (497, [6]) (List.mem_of_getElem? (i := 2) rfl)
    obtain rfl : [fI x6] = w := Option.some.inj (show some [fI x6] = some w from e6)
    exact (fF_b (r := 497) (by decide) rfl).mp e7
  have f3 : fB K n p 18 [fI x4, fI x7, fI x8, fI x5] σ := by
    obtain ⟨w, e6, e7⟩ := m4 (292, [4, 7, 8, 5]) (List.mem_of_getElem? (i := 3) rfl)
    obtain rfl : [fI x4, fI x7, fI x8, fI x5] = w := Option.some.inj (show some [fI x4, fI x7, fI x8, fI x5] = some w from e6)
    exact (fF_b (r := 292) (by decide) rfl).mp e7
  clear m1 m2 m3 m4
  have q0 : fB K n p 27 [fR x0, fI x3, fI x1, fI x4] (jup σ x0 (jsto (σ x0) x1.toNatClampNeg x2)) := by
    obtain ⟨a, lo, hi, s, e, h0⟩ := f0
    cases e
    obtain ⟨s, k, e, h1⟩ := f1
    cases e
    obtain ⟨k, e, h2, h3⟩ := f2
    cases e
    obtain ⟨s, i, k, t, e, h4, h5, h6⟩ := f3
    cases e
    have h7 := fRay b4 d4 b7 d7 h4 h5
    refine ⟨x0, x3, x1, x4, rfl, ?_⟩
    refine fLl_st h0 (fun _ => ?_) (fun k hk h9 => ?_)
    · have hm := fMk (m := x2) (f := x4.toInt) (t := x5.toInt) (b := 0) (by omega) (by omega) (by omega) (by omega)
      have hf : fMf x2 = x4.toNatClampNeg := by rw [fNc]; omega
      have hk : x6.toNatClampNeg = x6.toInt.toNat := rfl
      refine ⟨⟨x6.toNatClampNeg, by omega, by rw [hf]; exact h1, by omega, by omega, by omega, by omega, by omega, by omega, by omega, by omega⟩, hf⟩
    · rw [fNc] at hk
      omega
  refine ⟨p, fun _ => rfl, ⟨fun q h => (by cases h), fun q h => (by cases h), ?_, ?_⟩, [], List.mem_cons_self, fun f h => (by cases h)⟩
  · exact fun f h => by cases h
  · exact (aAllc ⟨_, rfl, fF_p (r := 436) (by decide) (by decide) rfl q0⟩ (fun f h => by cases h))
theorem rw_ruGHSE {K : Nat → Nat} {n : Nat} : aGho (fF K n) fa_T K n (fJX K n) ag_ruGHSE := by
  refine aGho_of ⟨rfl, rfl⟩ ?_
  intro p σ ρ hH hX hA hM
  have hG := aAG_of hA.1 (fun i e v he hv => (hA.2 i e v he hv).1)
  clear hA
  obtain ⟨v0, v1, v2, v3, v4, v5, v6, rfl, g0, g1, g2, g3, g4, g5, g6⟩ := fA_7 hG
  clear hG
  obtain ⟨x0, rfl, b0, d0⟩ := fG_ref (by decide) g0
  obtain ⟨x1, rfl, b1, d1⟩ := aG_int g1
  dsimp only at b1 d1
  obtain ⟨x2, rfl, b2, d2⟩ := aG_int g2
  dsimp only at b2 d2
  obtain ⟨x3, rfl, b3, d3⟩ := aG_int g3
  dsimp only at b3 d3
  obtain ⟨x4, rfl, b4, d4⟩ := aG_int g4
  dsimp only at b4 d4
  obtain ⟨x5, rfl, b5, d5⟩ := aG_int g5
  dsimp only at b5 d5
  obtain ⟨x6, rfl, b6, d6⟩ := aG_int g6
  dsimp only at b6 d6
  obtain ⟨m1, m2, m3, m4⟩ := hM
  have l0 : 0 ≤ (1 * x2.toInt + (-512 * x4.toInt + (-8 * x5.toInt + 0))) + 0 := by
    obtain ⟨z, e6, e7⟩ := m3 ([(2, 1), (4, -512), (5, -8)], 0) (List.mem_of_getElem? (i := 0) rfl)
    obtain rfl : (1 * x2.toInt + (-512 * x4.toInt + (-8 * x5.toInt + 0))) = z := Option.some.inj (show some (1 * x2.toInt + (-512 * x4.toInt + (-8 * x5.toInt + 0))) = some z from e6)
    exact e7
  have l1 : 0 ≤ (-1 * x2.toInt + (512 * x4.toInt + (8 * x5.toInt + 0))) + 0 := by
    obtain ⟨z, e6, e7⟩ := m3 ([(2, -1), (4, 512), (5, 8)], 0) (List.mem_of_getElem? (i := 1) rfl)
    obtain rfl : (-1 * x2.toInt + (512 * x4.toInt + (8 * x5.toInt + 0))) = z := Option.some.inj (show some (-1 * x2.toInt + (512 * x4.toInt + (8 * x5.toInt + 0))) = some z from e6)
    exact e7
  have l2 : 0 ≤ (1 * x1.toInt + (-1 * x3.toInt + 0)) + 0 := by
    obtain ⟨z, e6, e7⟩ := m3 ([(1, 1), (3, -1)], 0) (List.mem_of_getElem? (i := 2) rfl)
    obtain rfl : (1 * x1.toInt + (-1 * x3.toInt + 0)) = z := Option.some.inj (show some (1 * x1.toInt + (-1 * x3.toInt + 0)) = some z from e6)
    exact e7
  have f0 : fB K n p 26 [fR x0, fI x3, fI x1, fI x4] σ := by
    obtain ⟨w, e6, e7⟩ := m4 (420, [0, 3, 1, 4]) (List.mem_of_getElem? (i := 0) rfl)
    obtain rfl : [fR x0, fI x3, fI x1, fI x4] = w := Option.some.inj (show some [fR x0, fI x3, fI x1, fI x4] = some w from e6)
    exact (fF_b (r := 420) (by decide) rfl).mp e7
  have f1 : fB K n p 35 [fI x4] σ := by
    obtain ⟨w, e6, e7⟩ := m4 (561, [4]) (List.mem_of_getElem? (i := 1) rfl)
    obtain rfl : [fI x4] = w := Option.some.inj (show some [fI x4] = some w from e6)
    exact (fF_b (r := 561) (by decide) rfl).mp e7
  have f2 : fB K n p 37 [fI x4, fI x6, fI x5] σ := by
    obtain ⟨w, e6, e7⟩ := m4 (595, [4, 6, 5]) (List.mem_of_getElem? (i := 2) rfl)
    obtain rfl : [fI x4, fI x6, fI x5] = w := Option.some.inj (show some [fI x4, fI x6, fI x5] = some w from e6)
    exact (fF_b (r := 595) (by decide) rfl).mp e7
  clear m1 m2 m3 m4
  have q0 : fB K n p 27 [fR x0, fI x3, fI x1, fI x4] (jup σ x0 (jsto (σ x0) x1.toNatClampNeg x2)) := by
    obtain ⟨a, lo, hi, s, e, h0⟩ := f0
    cases e
    obtain ⟨s, e, h1⟩ := f1
    cases e
    obtain ⟨s, i, t, e, h2, h3, h4⟩ := f2
    cases e
    refine ⟨x0, x3, x1, x4, rfl, ?_⟩
    refine fLl_st h0 (fun _ => ?_) (fun k hk h9 => ?_)
    · have hm := fMk (m := x2) (f := x4.toInt) (t := x5.toInt) (b := 0) (by omega) (by omega) (by omega) (by omega)
      have hf : fMf x2 = x4.toNatClampNeg := by rw [fNc]; omega
      refine ⟨⟨2, by omega, by rw [hf]; exact h1, by omega, by omega, by omega, by omega, by omega, by omega, by omega, by omega⟩, hf⟩
    · rw [fNc] at hk
      omega
  refine ⟨p, fun _ => rfl, ⟨fun q h => (by cases h), fun q h => (by cases h), ?_, ?_⟩, [], List.mem_cons_self, fun f h => (by cases h)⟩
  · exact fun f h => by cases h
  · exact (aAllc ⟨_, rfl, fF_p (r := 436) (by decide) (by decide) rfl q0⟩ (fun f h => by cases h))
theorem rw_ruGKSE {K : Nat → Nat} {n : Nat} : aGho (fF K n) fa_T K n (fJX K n) ag_ruGKSE := by
  refine aGho_of ⟨rfl, rfl⟩ ?_
  intro p σ ρ hH hX hA hM
  have hG := aAG_of hA.1 (fun i e v he hv => (hA.2 i e v he hv).1)
  clear hA
  obtain ⟨v0, v1, v2, v3, v4, v5, v6, rfl, g0, g1, g2, g3, g4, g5, g6⟩ := fA_7 hG
  clear hG
  obtain ⟨x0, rfl, b0, d0⟩ := fG_ref (by decide) g0
  obtain ⟨x1, rfl, b1, d1⟩ := aG_int g1
  dsimp only at b1 d1
  obtain ⟨x2, rfl, b2, d2⟩ := aG_int g2
  dsimp only at b2 d2
  obtain ⟨x3, rfl, b3, d3⟩ := aG_int g3
  dsimp only at b3 d3
  obtain ⟨x4, rfl, b4, d4⟩ := aG_int g4
  dsimp only at b4 d4
  obtain ⟨x5, rfl, b5, d5⟩ := aG_int g5
  dsimp only at b5 d5
  obtain ⟨x6, rfl, b6, d6⟩ := aG_int g6
  dsimp only at b6 d6
  obtain ⟨m1, m2, m3, m4⟩ := hM
  have l0 : 0 ≤ (1 * x2.toInt + (-512 * x4.toInt + (-8 * x5.toInt + 0))) + 0 := by
    obtain ⟨z, e6, e7⟩ := m3 ([(2, 1), (4, -512), (5, -8)], 0) (List.mem_of_getElem? (i := 0) rfl)
    obtain rfl : (1 * x2.toInt + (-512 * x4.toInt + (-8 * x5.toInt + 0))) = z := Option.some.inj (show some (1 * x2.toInt + (-512 * x4.toInt + (-8 * x5.toInt + 0))) = some z from e6)
    exact e7
  have l1 : 0 ≤ (-1 * x2.toInt + (512 * x4.toInt + (8 * x5.toInt + 0))) + 0 := by
    obtain ⟨z, e6, e7⟩ := m3 ([(2, -1), (4, 512), (5, 8)], 0) (List.mem_of_getElem? (i := 1) rfl)
    obtain rfl : (-1 * x2.toInt + (512 * x4.toInt + (8 * x5.toInt + 0))) = z := Option.some.inj (show some (-1 * x2.toInt + (512 * x4.toInt + (8 * x5.toInt + 0))) = some z from e6)
    exact e7
  have l2 : 0 ≤ (1 * x1.toInt + (-1 * x3.toInt + 0)) + 0 := by
    obtain ⟨z, e6, e7⟩ := m3 ([(1, 1), (3, -1)], 0) (List.mem_of_getElem? (i := 2) rfl)
    obtain rfl : (1 * x1.toInt + (-1 * x3.toInt + 0)) = z := Option.some.inj (show some (1 * x1.toInt + (-1 * x3.toInt + 0)) = some z from e6)
    exact e7
  have f0 : fB K n p 26 [fR x0, fI x3, fI x1, fI x4] σ := by
    obtain ⟨w, e6, e7⟩ := m4 (420, [0, 3, 1, 4]) (List.mem_of_getElem? (i := 0) rfl)
    obtain rfl : [fR x0, fI x3, fI x1, fI x4] = w := Option.some.inj (show some [fR x0, fI x3, fI x1, fI x4] = some w from e6)
    exact (fF_b (r := 420) (by decide) rfl).mp e7
  have f1 : fB K n p 36 [fI x4] σ := by
    obtain ⟨w, e6, e7⟩ := m4 (577, [4]) (List.mem_of_getElem? (i := 1) rfl)
    obtain rfl : [fI x4] = w := Option.some.inj (show some [fI x4] = some w from e6)
    exact (fF_b (r := 577) (by decide) rfl).mp e7
  have f2 : fB K n p 37 [fI x4, fI x6, fI x5] σ := by
    obtain ⟨w, e6, e7⟩ := m4 (595, [4, 6, 5]) (List.mem_of_getElem? (i := 2) rfl)
    obtain rfl : [fI x4, fI x6, fI x5] = w := Option.some.inj (show some [fI x4, fI x6, fI x5] = some w from e6)
    exact (fF_b (r := 595) (by decide) rfl).mp e7
  clear m1 m2 m3 m4
  have q0 : fB K n p 27 [fR x0, fI x3, fI x1, fI x4] (jup σ x0 (jsto (σ x0) x1.toNatClampNeg x2)) := by
    obtain ⟨a, lo, hi, s, e, h0⟩ := f0
    cases e
    obtain ⟨s, e, h1⟩ := f1
    cases e
    obtain ⟨s, i, t, e, h2, h3, h4⟩ := f2
    cases e
    refine ⟨x0, x3, x1, x4, rfl, ?_⟩
    refine fLl_st h0 (fun _ => ?_) (fun k hk h9 => ?_)
    · have hm := fMk (m := x2) (f := x4.toInt) (t := x5.toInt) (b := 0) (by omega) (by omega) (by omega) (by omega)
      have hf : fMf x2 = x4.toNatClampNeg := by rw [fNc]; omega
      refine ⟨⟨6, by omega, by rw [hf]; exact h1, by omega, by omega, by omega, by omega, by omega, by omega, by omega, by omega⟩, hf⟩
    · rw [fNc] at hk
      omega
  refine ⟨p, fun _ => rfl, ⟨fun q h => (by cases h), fun q h => (by cases h), ?_, ?_⟩, [], List.mem_cons_self, fun f h => (by cases h)⟩
  · exact fun f h => by cases h
  · exact (aAllc ⟨_, rfl, fF_p (r := 436) (by decide) (by decide) rfl q0⟩ (fun f h => by cases h))
theorem rw_ruGCsSE {K : Nat → Nat} {n : Nat} : aGho (fF K n) fa_T K n (fJX K n) ag_ruGCsSE := by
  refine aGho_of ⟨rfl, rfl⟩ ?_
  intro p σ ρ hH hX hA hM
  have hG := aAG_of hA.1 (fun i e v he hv => (hA.2 i e v he hv).1)
  clear hA
  obtain ⟨v0, v1, v2, v3, v4, v5, v6, v7, v8, rfl, g0, g1, g2, g3, g4, g5, g6, g7, g8⟩ := fA_9 hG
  clear hG
  obtain ⟨x0, rfl, b0, d0⟩ := fG_ref (by decide) g0
  obtain ⟨x1, rfl, b1, d1⟩ := aG_int g1
  dsimp only at b1 d1
  obtain ⟨x2, rfl, b2, d2⟩ := aG_int g2
  dsimp only at b2 d2
  obtain ⟨x3, rfl, b3, d3⟩ := aG_int g3
  dsimp only at b3 d3
  obtain ⟨x4, rfl, b4, d4⟩ := aG_int g4
  dsimp only at b4 d4
  obtain ⟨x5, rfl, b5, d5⟩ := aG_int g5
  dsimp only at b5 d5
  obtain ⟨x6, rfl, b6, d6⟩ := aG_int g6
  dsimp only at b6 d6
  obtain ⟨x7, rfl, b7, d7⟩ := fG_ref (by decide) g7
  obtain ⟨x8, rfl, b8, d8⟩ := aG_int g8
  dsimp only at b8 d8
  obtain ⟨m1, m2, m3, m4⟩ := hM
  obtain ⟨a0, c0, fs0, w0, e1, s0, t0, e4⟩ := m1 (7, 2, 8) (List.mem_of_getElem? (i := 0) rfl)
  obtain rfl : x7 = a0 := Sum.inl.inj (Option.some.inj (Sum.inr.inj (Sum.inr.inj (Option.some.inj (show some (fR x7) = some _ from e1)))))
  obtain rfl : fI x8 = w0 := Option.some.inj (show some (fI x8) = some _ from e4)
  clear e1 e4
  have l0 : 0 ≤ (1 * x2.toInt + (-520 * x4.toInt + 0)) + -16 := by
    obtain ⟨z, e6, e7⟩ := m3 ([(2, 1), (4, -520)], -16) (List.mem_of_getElem? (i := 0) rfl)
    obtain rfl : (1 * x2.toInt + (-520 * x4.toInt + 0)) = z := Option.some.inj (show some (1 * x2.toInt + (-520 * x4.toInt + 0)) = some z from e6)
    exact e7
  have l1 : 0 ≤ (-1 * x2.toInt + (520 * x4.toInt + 0)) + 16 := by
    obtain ⟨z, e6, e7⟩ := m3 ([(2, -1), (4, 520)], 16) (List.mem_of_getElem? (i := 1) rfl)
    obtain rfl : (-1 * x2.toInt + (520 * x4.toInt + 0)) = z := Option.some.inj (show some (-1 * x2.toInt + (520 * x4.toInt + 0)) = some z from e6)
    exact e7
  have l2 : 0 ≤ (1 * x4.toInt + (-56 * x8.toInt + 0)) + -4 := by
    obtain ⟨z, e6, e7⟩ := m3 ([(4, 1), (8, -56)], -4) (List.mem_of_getElem? (i := 2) rfl)
    obtain rfl : (1 * x4.toInt + (-56 * x8.toInt + 0)) = z := Option.some.inj (show some (1 * x4.toInt + (-56 * x8.toInt + 0)) = some z from e6)
    exact e7
  have l3 : 0 ≤ (-1 * x4.toInt + (56 * x8.toInt + 0)) + 4 := by
    obtain ⟨z, e6, e7⟩ := m3 ([(4, -1), (8, 56)], 4) (List.mem_of_getElem? (i := 3) rfl)
    obtain rfl : (-1 * x4.toInt + (56 * x8.toInt + 0)) = z := Option.some.inj (show some (-1 * x4.toInt + (56 * x8.toInt + 0)) = some z from e6)
    exact e7
  have l4 : 0 ≤ (1 * x1.toInt + (-1 * x3.toInt + 0)) + 0 := by
    obtain ⟨z, e6, e7⟩ := m3 ([(1, 1), (3, -1)], 0) (List.mem_of_getElem? (i := 4) rfl)
    obtain rfl : (1 * x1.toInt + (-1 * x3.toInt + 0)) = z := Option.some.inj (show some (1 * x1.toInt + (-1 * x3.toInt + 0)) = some z from e6)
    exact e7
  have f0 : fB K n p 1 [fR x7] σ := by
    obtain ⟨w, e6, e7⟩ := m4 (17, [7]) (List.mem_of_getElem? (i := 0) rfl)
    obtain rfl : [fR x7] = w := Option.some.inj (show some [fR x7] = some w from e6)
    exact (fF_b (r := 17) (by decide) rfl).mp e7
  have f1 : fB K n p 26 [fR x0, fI x3, fI x1, fI x4] σ := by
    obtain ⟨w, e6, e7⟩ := m4 (420, [0, 3, 1, 4]) (List.mem_of_getElem? (i := 1) rfl)
    obtain rfl : [fR x0, fI x3, fI x1, fI x4] = w := Option.some.inj (show some [fR x0, fI x3, fI x1, fI x4] = some w from e6)
    exact (fF_b (r := 420) (by decide) rfl).mp e7
  have f2 : fB K n p 36 [fI x4] σ := by
    obtain ⟨w, e6, e7⟩ := m4 (577, [4]) (List.mem_of_getElem? (i := 2) rfl)
    obtain rfl : [fI x4] = w := Option.some.inj (show some [fI x4] = some w from e6)
    exact (fF_b (r := 577) (by decide) rfl).mp e7
  have f3 : fB K n p 40 [fI x4, fI x5] σ := by
    obtain ⟨w, e6, e7⟩ := m4 (642, [4, 5]) (List.mem_of_getElem? (i := 3) rfl)
    obtain rfl : [fI x4, fI x5] = w := Option.some.inj (show some [fI x4, fI x5] = some w from e6)
    exact (fF_b (r := 642) (by decide) rfl).mp e7
  have f4 : fB K n p 41 [fI x4, fI x6] σ := by
    obtain ⟨w, e6, e7⟩ := m4 (658, [4, 6]) (List.mem_of_getElem? (i := 4) rfl)
    obtain rfl : [fI x4, fI x6] = w := Option.some.inj (show some [fI x4, fI x6] = some w from e6)
    exact (fF_b (r := 658) (by decide) rfl).mp e7
  have f5 : fB K n p 44 [fI x4] σ := by
    obtain ⟨w, e6, e7⟩ := m4 (705, [4]) (List.mem_of_getElem? (i := 5) rfl)
    obtain rfl : [fI x4] = w := Option.some.inj (show some [fI x4] = some w from e6)
    exact (fF_b (r := 705) (by decide) rfl).mp e7
  clear m1 m2 m3 m4
  have q0 : fB K n p 27 [fR x0, fI x3, fI x1, fI x4] (jup σ x0 (jsto (σ x0) x1.toNatClampNeg x2)) := by
    obtain ⟨a, e, h9, hg⟩ := f0
    cases e
    have hF := fAt_of h9 s0
    have hs := hF.2.1 _ t0
    obtain ⟨a, lo, hi, s, e, h0⟩ := f1
    cases e
    obtain ⟨s, e, h1⟩ := f2
    cases e
    obtain ⟨s, v, e, h2⟩ := f3
    cases e
    obtain ⟨s, v, e, h3⟩ := f4
    cases e
    obtain ⟨s, e, h4⟩ := f5
    cases e
    refine ⟨x0, x3, x1, x4, rfl, ?_⟩
    refine fLl_st h0 (fun _ => ?_) (fun k hk h9 => ?_)
    · have hm := fMk (m := x2) (f := x4.toInt) (t := x4.toInt + 2) (b := 0) (by omega) (by omega) (by omega) (by omega)
      have hf : fMf x2 = x4.toNatClampNeg := by rw [fNc]; omega
      have hc : (fMf x2 : Int) = 4 + 56 * ((fq p).2 2).toInt := by rw [← hs]; omega
      refine ⟨⟨6, by omega, by rw [hf]; exact h1, by omega, by omega, by omega, by omega, by omega, fun _ _ => ⟨hc, ?_, ?_, ?_⟩, by omega, by omega⟩, hf⟩
      · rw [show fMf x2 + 1 = (x4.toInt + 1).toNat by omega, h2]; omega
      · rw [show fMf x2 + 2 = (x4.toInt + 2).toNat by omega, h3]; omega
      · rw [show fMf x2 + 3 = (x4.toInt + 3).toNat by omega]; exact h4
    · rw [fNc] at hk
      omega
  refine ⟨p, fun _ => rfl, ⟨fun q h => (by cases h), fun q h => (by cases h), ?_, ?_⟩, [], List.mem_cons_self, fun f h => (by cases h)⟩
  · exact fun f h => by cases h
  · exact (aAllc ⟨_, rfl, fF_p (r := 436) (by decide) (by decide) rfl q0⟩ (fun f h => by cases h))
theorem rw_ruGClSE {K : Nat → Nat} {n : Nat} : aGho (fF K n) fa_T K n (fJX K n) ag_ruGClSE := by
  refine aGho_of ⟨rfl, rfl⟩ ?_
  intro p σ ρ hH hX hA hM
  have hG := aAG_of hA.1 (fun i e v he hv => (hA.2 i e v he hv).1)
  clear hA
  obtain ⟨v0, v1, v2, v3, v4, v5, v6, v7, v8, rfl, g0, g1, g2, g3, g4, g5, g6, g7, g8⟩ := fA_9 hG
  clear hG
  obtain ⟨x0, rfl, b0, d0⟩ := fG_ref (by decide) g0
  obtain ⟨x1, rfl, b1, d1⟩ := aG_int g1
  dsimp only at b1 d1
  obtain ⟨x2, rfl, b2, d2⟩ := aG_int g2
  dsimp only at b2 d2
  obtain ⟨x3, rfl, b3, d3⟩ := aG_int g3
  dsimp only at b3 d3
  obtain ⟨x4, rfl, b4, d4⟩ := aG_int g4
  dsimp only at b4 d4
  obtain ⟨x5, rfl, b5, d5⟩ := aG_int g5
  dsimp only at b5 d5
  obtain ⟨x6, rfl, b6, d6⟩ := aG_int g6
  dsimp only at b6 d6
  obtain ⟨x7, rfl, b7, d7⟩ := fG_ref (by decide) g7
  obtain ⟨x8, rfl, b8, d8⟩ := aG_int g8
  dsimp only at b8 d8
  obtain ⟨m1, m2, m3, m4⟩ := hM
  obtain ⟨a0, c0, fs0, w0, e1, s0, t0, e4⟩ := m1 (7, 2, 8) (List.mem_of_getElem? (i := 0) rfl)
  obtain rfl : x7 = a0 := Sum.inl.inj (Option.some.inj (Sum.inr.inj (Sum.inr.inj (Option.some.inj (show some (fR x7) = some _ from e1)))))
  obtain rfl : fI x8 = w0 := Option.some.inj (show some (fI x8) = some _ from e4)
  clear e1 e4
  have l0 : 0 ≤ (1 * x2.toInt + (-520 * x4.toInt + 0)) + 16 := by
    obtain ⟨z, e6, e7⟩ := m3 ([(2, 1), (4, -520)], 16) (List.mem_of_getElem? (i := 0) rfl)
    obtain rfl : (1 * x2.toInt + (-520 * x4.toInt + 0)) = z := Option.some.inj (show some (1 * x2.toInt + (-520 * x4.toInt + 0)) = some z from e6)
    exact e7
  have l1 : 0 ≤ (-1 * x2.toInt + (520 * x4.toInt + 0)) + -16 := by
    obtain ⟨z, e6, e7⟩ := m3 ([(2, -1), (4, 520)], -16) (List.mem_of_getElem? (i := 1) rfl)
    obtain rfl : (-1 * x2.toInt + (520 * x4.toInt + 0)) = z := Option.some.inj (show some (-1 * x2.toInt + (520 * x4.toInt + 0)) = some z from e6)
    exact e7
  have l2 : 0 ≤ (1 * x4.toInt + (-56 * x8.toInt + 0)) + -4 := by
    obtain ⟨z, e6, e7⟩ := m3 ([(4, 1), (8, -56)], -4) (List.mem_of_getElem? (i := 2) rfl)
    obtain rfl : (1 * x4.toInt + (-56 * x8.toInt + 0)) = z := Option.some.inj (show some (1 * x4.toInt + (-56 * x8.toInt + 0)) = some z from e6)
    exact e7
  have l3 : 0 ≤ (-1 * x4.toInt + (56 * x8.toInt + 0)) + 4 := by
    obtain ⟨z, e6, e7⟩ := m3 ([(4, -1), (8, 56)], 4) (List.mem_of_getElem? (i := 3) rfl)
    obtain rfl : (-1 * x4.toInt + (56 * x8.toInt + 0)) = z := Option.some.inj (show some (-1 * x4.toInt + (56 * x8.toInt + 0)) = some z from e6)
    exact e7
  have l4 : 0 ≤ (1 * x1.toInt + (-1 * x3.toInt + 0)) + 0 := by
    obtain ⟨z, e6, e7⟩ := m3 ([(1, 1), (3, -1)], 0) (List.mem_of_getElem? (i := 4) rfl)
    obtain rfl : (1 * x1.toInt + (-1 * x3.toInt + 0)) = z := Option.some.inj (show some (1 * x1.toInt + (-1 * x3.toInt + 0)) = some z from e6)
    exact e7
  have f0 : fB K n p 1 [fR x7] σ := by
    obtain ⟨w, e6, e7⟩ := m4 (17, [7]) (List.mem_of_getElem? (i := 0) rfl)
    obtain rfl : [fR x7] = w := Option.some.inj (show some [fR x7] = some w from e6)
    exact (fF_b (r := 17) (by decide) rfl).mp e7
  have f1 : fB K n p 26 [fR x0, fI x3, fI x1, fI x4] σ := by
    obtain ⟨w, e6, e7⟩ := m4 (420, [0, 3, 1, 4]) (List.mem_of_getElem? (i := 1) rfl)
    obtain rfl : [fR x0, fI x3, fI x1, fI x4] = w := Option.some.inj (show some [fR x0, fI x3, fI x1, fI x4] = some w from e6)
    exact (fF_b (r := 420) (by decide) rfl).mp e7
  have f2 : fB K n p 36 [fI x4] σ := by
    obtain ⟨w, e6, e7⟩ := m4 (577, [4]) (List.mem_of_getElem? (i := 2) rfl)
    obtain rfl : [fI x4] = w := Option.some.inj (show some [fI x4] = some w from e6)
    exact (fF_b (r := 577) (by decide) rfl).mp e7
  have f3 : fB K n p 42 [fI x4, fI x5] σ := by
    obtain ⟨w, e6, e7⟩ := m4 (674, [4, 5]) (List.mem_of_getElem? (i := 3) rfl)
    obtain rfl : [fI x4, fI x5] = w := Option.some.inj (show some [fI x4, fI x5] = some w from e6)
    exact (fF_b (r := 674) (by decide) rfl).mp e7
  have f4 : fB K n p 43 [fI x4, fI x6] σ := by
    obtain ⟨w, e6, e7⟩ := m4 (690, [4, 6]) (List.mem_of_getElem? (i := 4) rfl)
    obtain rfl : [fI x4, fI x6] = w := Option.some.inj (show some [fI x4, fI x6] = some w from e6)
    exact (fF_b (r := 690) (by decide) rfl).mp e7
  have f5 : fB K n p 45 [fI x4] σ := by
    obtain ⟨w, e6, e7⟩ := m4 (721, [4]) (List.mem_of_getElem? (i := 5) rfl)
    obtain rfl : [fI x4] = w := Option.some.inj (show some [fI x4] = some w from e6)
    exact (fF_b (r := 721) (by decide) rfl).mp e7
  clear m1 m2 m3 m4
  have q0 : fB K n p 27 [fR x0, fI x3, fI x1, fI x4] (jup σ x0 (jsto (σ x0) x1.toNatClampNeg x2)) := by
    obtain ⟨a, e, h9, hg⟩ := f0
    cases e
    have hF := fAt_of h9 s0
    have hs := hF.2.1 _ t0
    obtain ⟨a, lo, hi, s, e, h0⟩ := f1
    cases e
    obtain ⟨s, e, h1⟩ := f2
    cases e
    obtain ⟨s, v, e, h2⟩ := f3
    cases e
    obtain ⟨s, v, e, h3⟩ := f4
    cases e
    obtain ⟨s, e, h4⟩ := f5
    cases e
    refine ⟨x0, x3, x1, x4, rfl, ?_⟩
    refine fLl_st h0 (fun _ => ?_) (fun k hk h9 => ?_)
    · have hm := fMk (m := x2) (f := x4.toInt) (t := x4.toInt - 2) (b := 0) (by omega) (by omega) (by omega) (by omega)
      have hf : fMf x2 = x4.toNatClampNeg := by rw [fNc]; omega
      have hc : (fMf x2 : Int) = 4 + 56 * ((fq p).2 2).toInt := by rw [← hs]; omega
      refine ⟨⟨6, by omega, by rw [hf]; exact h1, by omega, by omega, by omega, by omega, by omega, by omega, fun _ _ => ⟨hc, ?_, ?_, ?_⟩, by omega⟩, hf⟩
      · rw [show fMf x2 - 1 = (x4.toInt - 1).toNat by omega, h2]; omega
      · rw [show fMf x2 - 2 = (x4.toInt - 2).toNat by omega, h3]; omega
      · rw [show fMf x2 - 4 = (x4.toInt - 4).toNat by omega]; exact h4
    · rw [fNc] at hk
      omega
  refine ⟨p, fun _ => rfl, ⟨fun q h => (by cases h), fun q h => (by cases h), ?_, ?_⟩, [], List.mem_cons_self, fun f h => (by cases h)⟩
  · exact fun f h => by cases h
  · exact (aAllc ⟨_, rfl, fF_p (r := 436) (by decide) (by decide) rfl q0⟩ (fun f h => by cases h))
theorem rw_ruGPuSE {K : Nat → Nat} {n : Nat} : aGho (fF K n) fa_T K n (fJX K n) ag_ruGPuSE := by
  refine aGho_of ⟨rfl, rfl⟩ ?_
  intro p σ ρ hH hX hA hM
  have hG := aAG_of hA.1 (fun i e v he hv => (hA.2 i e v he hv).1)
  clear hA
  obtain ⟨v0, v1, v2, v3, v4, v5, v6, v7, rfl, g0, g1, g2, g3, g4, g5, g6, g7⟩ := fA_8 hG
  clear hG
  obtain ⟨x0, rfl, b0, d0⟩ := fG_ref (by decide) g0
  obtain ⟨x1, rfl, b1, d1⟩ := aG_int g1
  dsimp only at b1 d1
  obtain ⟨x2, rfl, b2, d2⟩ := aG_int g2
  dsimp only at b2 d2
  obtain ⟨x3, rfl, b3, d3⟩ := aG_int g3
  dsimp only at b3 d3
  obtain ⟨x4, rfl, b4, d4⟩ := aG_int g4
  dsimp only at b4 d4
  obtain ⟨x5, rfl, b5, d5⟩ := aG_int g5
  dsimp only at b5 d5
  obtain ⟨x6, rfl, b6, d6⟩ := aG_int g6
  dsimp only at b6 d6
  obtain ⟨x7, rfl, b7, d7⟩ := aG_int g7
  dsimp only at b7 d7
  obtain ⟨m1, m2, m3, m4⟩ := hM
  have l0 : 0 ≤ (1 * x2.toInt + (-512 * x4.toInt + (-8 * x5.toInt + (-1 * x6.toInt + 0)))) + 0 := by
    obtain ⟨z, e6, e7⟩ := m3 ([(2, 1), (4, -512), (5, -8), (6, -1)], 0) (List.mem_of_getElem? (i := 0) rfl)
    obtain rfl : (1 * x2.toInt + (-512 * x4.toInt + (-8 * x5.toInt + (-1 * x6.toInt + 0)))) = z := Option.some.inj (show some (1 * x2.toInt + (-512 * x4.toInt + (-8 * x5.toInt + (-1 * x6.toInt + 0)))) = some z from e6)
    exact e7
  have l1 : 0 ≤ (-1 * x2.toInt + (512 * x4.toInt + (8 * x5.toInt + (1 * x6.toInt + 0)))) + 0 := by
    obtain ⟨z, e6, e7⟩ := m3 ([(2, -1), (4, 512), (5, 8), (6, 1)], 0) (List.mem_of_getElem? (i := 1) rfl)
    obtain rfl : (-1 * x2.toInt + (512 * x4.toInt + (8 * x5.toInt + (1 * x6.toInt + 0)))) = z := Option.some.inj (show some (-1 * x2.toInt + (512 * x4.toInt + (8 * x5.toInt + (1 * x6.toInt + 0)))) = some z from e6)
    exact e7
  have l2 : 0 ≤ (1 * x6.toInt + (-2 * x7.toInt + 0)) + 0 := by
    obtain ⟨z, e6, e7⟩ := m3 ([(6, 1), (7, -2)], 0) (List.mem_of_getElem? (i := 2) rfl)
    obtain rfl : (1 * x6.toInt + (-2 * x7.toInt + 0)) = z := Option.some.inj (show some (1 * x6.toInt + (-2 * x7.toInt + 0)) = some z from e6)
    exact e7
  have l3 : 0 ≤ (-1 * x6.toInt + (5 * x7.toInt + 0)) + 0 := by
    obtain ⟨z, e6, e7⟩ := m3 ([(6, -1), (7, 5)], 0) (List.mem_of_getElem? (i := 3) rfl)
    obtain rfl : (-1 * x6.toInt + (5 * x7.toInt + 0)) = z := Option.some.inj (show some (-1 * x6.toInt + (5 * x7.toInt + 0)) = some z from e6)
    exact e7
  have l4 : 0 ≤ (1 * x1.toInt + (-1 * x3.toInt + 0)) + 0 := by
    obtain ⟨z, e6, e7⟩ := m3 ([(1, 1), (3, -1)], 0) (List.mem_of_getElem? (i := 4) rfl)
    obtain rfl : (1 * x1.toInt + (-1 * x3.toInt + 0)) = z := Option.some.inj (show some (1 * x1.toInt + (-1 * x3.toInt + 0)) = some z from e6)
    exact e7
  have l5 : 0 ≤ (1 * x5.toInt + (-1 * x4.toInt + 0)) + -7 := by
    obtain ⟨z, e6, e7⟩ := m3 ([(5, 1), (4, -1)], -7) (List.mem_of_getElem? (i := 5) rfl)
    obtain rfl : (1 * x5.toInt + (-1 * x4.toInt + 0)) = z := Option.some.inj (show some (1 * x5.toInt + (-1 * x4.toInt + 0)) = some z from e6)
    exact e7
  have l6 : 0 ≤ (-1 * x5.toInt + (1 * x4.toInt + 0)) + 9 := by
    obtain ⟨z, e6, e7⟩ := m3 ([(5, -1), (4, 1)], 9) (List.mem_of_getElem? (i := 6) rfl)
    obtain rfl : (-1 * x5.toInt + (1 * x4.toInt + 0)) = z := Option.some.inj (show some (-1 * x5.toInt + (1 * x4.toInt + 0)) = some z from e6)
    exact e7
  have l7 : 0 ≤ (1 * x5.toInt + (8 * x7.toInt + 0)) + -8 := by
    obtain ⟨z, e6, e7⟩ := m3 ([(5, 1), (7, 8)], -8) (List.mem_of_getElem? (i := 7) rfl)
    obtain rfl : (1 * x5.toInt + (8 * x7.toInt + 0)) = z := Option.some.inj (show some (1 * x5.toInt + (8 * x7.toInt + 0)) = some z from e6)
    exact e7
  have l8 : 0 ≤ (-1 * x5.toInt + (8 * x7.toInt + 0)) + 55 := by
    obtain ⟨z, e6, e7⟩ := m3 ([(5, -1), (7, 8)], 55) (List.mem_of_getElem? (i := 8) rfl)
    obtain rfl : (-1 * x5.toInt + (8 * x7.toInt + 0)) = z := Option.some.inj (show some (-1 * x5.toInt + (8 * x7.toInt + 0)) = some z from e6)
    exact e7
  have f0 : fB K n p 26 [fR x0, fI x3, fI x1, fI x4] σ := by
    obtain ⟨w, e6, e7⟩ := m4 (420, [0, 3, 1, 4]) (List.mem_of_getElem? (i := 0) rfl)
    obtain rfl : [fR x0, fI x3, fI x1, fI x4] = w := Option.some.inj (show some [fR x0, fI x3, fI x1, fI x4] = some w from e6)
    exact (fF_b (r := 420) (by decide) rfl).mp e7
  have f1 : fB K n p 34 [fI x4] σ := by
    obtain ⟨w, e6, e7⟩ := m4 (545, [4]) (List.mem_of_getElem? (i := 1) rfl)
    obtain rfl : [fI x4] = w := Option.some.inj (show some [fI x4] = some w from e6)
    exact (fF_b (r := 545) (by decide) rfl).mp e7
  clear m1 m2 m3 m4
  have q0 : fB K n p 27 [fR x0, fI x3, fI x1, fI x4] (jup σ x0 (jsto (σ x0) x1.toNatClampNeg x2)) := by
    obtain ⟨a, lo, hi, s, e, h0⟩ := f0
    cases e
    obtain ⟨s, e, h1⟩ := f1
    cases e
    refine ⟨x0, x3, x1, x4, rfl, ?_⟩
    refine fLl_st h0 (fun _ => ?_) (fun k hk h9 => ?_)
    · have hm := fMk (m := x2) (f := x4.toInt) (t := x5.toInt) (b := x6.toInt) (by omega) (by omega) (by omega) (by omega)
      have hf : fMf x2 = x4.toNatClampNeg := by rw [fNc]; omega
      refine ⟨⟨1, by omega, by rw [hf]; exact h1, by omega, by omega, by omega, by omega, by omega, by omega, by omega, by omega⟩, hf⟩
    · rw [fNc] at hk
      omega
  refine ⟨p, fun _ => rfl, ⟨fun q h => (by cases h), fun q h => (by cases h), ?_, ?_⟩, [], List.mem_cons_self, fun f h => (by cases h)⟩
  · exact fun f h => by cases h
  · exact (aAllc ⟨_, rfl, fF_p (r := 436) (by decide) (by decide) rfl q0⟩ (fun f h => by cases h))
theorem rw_ruGPdSE {K : Nat → Nat} {n : Nat} : aGho (fF K n) fa_T K n (fJX K n) ag_ruGPdSE := by
  refine aGho_of ⟨rfl, rfl⟩ ?_
  intro p σ ρ hH hX hA hM
  have hG := aAG_of hA.1 (fun i e v he hv => (hA.2 i e v he hv).1)
  clear hA
  obtain ⟨v0, v1, v2, v3, v4, v5, v6, v7, rfl, g0, g1, g2, g3, g4, g5, g6, g7⟩ := fA_8 hG
  clear hG
  obtain ⟨x0, rfl, b0, d0⟩ := fG_ref (by decide) g0
  obtain ⟨x1, rfl, b1, d1⟩ := aG_int g1
  dsimp only at b1 d1
  obtain ⟨x2, rfl, b2, d2⟩ := aG_int g2
  dsimp only at b2 d2
  obtain ⟨x3, rfl, b3, d3⟩ := aG_int g3
  dsimp only at b3 d3
  obtain ⟨x4, rfl, b4, d4⟩ := aG_int g4
  dsimp only at b4 d4
  obtain ⟨x5, rfl, b5, d5⟩ := aG_int g5
  dsimp only at b5 d5
  obtain ⟨x6, rfl, b6, d6⟩ := aG_int g6
  dsimp only at b6 d6
  obtain ⟨x7, rfl, b7, d7⟩ := aG_int g7
  dsimp only at b7 d7
  obtain ⟨m1, m2, m3, m4⟩ := hM
  have l0 : 0 ≤ (1 * x2.toInt + (-512 * x4.toInt + (-8 * x5.toInt + (-1 * x6.toInt + 0)))) + 0 := by
    obtain ⟨z, e6, e7⟩ := m3 ([(2, 1), (4, -512), (5, -8), (6, -1)], 0) (List.mem_of_getElem? (i := 0) rfl)
    obtain rfl : (1 * x2.toInt + (-512 * x4.toInt + (-8 * x5.toInt + (-1 * x6.toInt + 0)))) = z := Option.some.inj (show some (1 * x2.toInt + (-512 * x4.toInt + (-8 * x5.toInt + (-1 * x6.toInt + 0)))) = some z from e6)
    exact e7
  have l1 : 0 ≤ (-1 * x2.toInt + (512 * x4.toInt + (8 * x5.toInt + (1 * x6.toInt + 0)))) + 0 := by
    obtain ⟨z, e6, e7⟩ := m3 ([(2, -1), (4, 512), (5, 8), (6, 1)], 0) (List.mem_of_getElem? (i := 1) rfl)
    obtain rfl : (-1 * x2.toInt + (512 * x4.toInt + (8 * x5.toInt + (1 * x6.toInt + 0)))) = z := Option.some.inj (show some (-1 * x2.toInt + (512 * x4.toInt + (8 * x5.toInt + (1 * x6.toInt + 0)))) = some z from e6)
    exact e7
  have l2 : 0 ≤ (1 * x6.toInt + (-2 * x7.toInt + 0)) + 0 := by
    obtain ⟨z, e6, e7⟩ := m3 ([(6, 1), (7, -2)], 0) (List.mem_of_getElem? (i := 2) rfl)
    obtain rfl : (1 * x6.toInt + (-2 * x7.toInt + 0)) = z := Option.some.inj (show some (1 * x6.toInt + (-2 * x7.toInt + 0)) = some z from e6)
    exact e7
  have l3 : 0 ≤ (-1 * x6.toInt + (5 * x7.toInt + 0)) + 0 := by
    obtain ⟨z, e6, e7⟩ := m3 ([(6, -1), (7, 5)], 0) (List.mem_of_getElem? (i := 3) rfl)
    obtain rfl : (-1 * x6.toInt + (5 * x7.toInt + 0)) = z := Option.some.inj (show some (-1 * x6.toInt + (5 * x7.toInt + 0)) = some z from e6)
    exact e7
  have l4 : 0 ≤ (1 * x1.toInt + (-1 * x3.toInt + 0)) + 0 := by
    obtain ⟨z, e6, e7⟩ := m3 ([(1, 1), (3, -1)], 0) (List.mem_of_getElem? (i := 4) rfl)
    obtain rfl : (1 * x1.toInt + (-1 * x3.toInt + 0)) = z := Option.some.inj (show some (1 * x1.toInt + (-1 * x3.toInt + 0)) = some z from e6)
    exact e7
  have l5 : 0 ≤ (-1 * x5.toInt + (1 * x4.toInt + 0)) + -7 := by
    obtain ⟨z, e6, e7⟩ := m3 ([(5, -1), (4, 1)], -7) (List.mem_of_getElem? (i := 5) rfl)
    obtain rfl : (-1 * x5.toInt + (1 * x4.toInt + 0)) = z := Option.some.inj (show some (-1 * x5.toInt + (1 * x4.toInt + 0)) = some z from e6)
    exact e7
  have l6 : 0 ≤ (1 * x5.toInt + (-1 * x4.toInt + 0)) + 9 := by
    obtain ⟨z, e6, e7⟩ := m3 ([(5, 1), (4, -1)], 9) (List.mem_of_getElem? (i := 6) rfl)
    obtain rfl : (1 * x5.toInt + (-1 * x4.toInt + 0)) = z := Option.some.inj (show some (1 * x5.toInt + (-1 * x4.toInt + 0)) = some z from e6)
    exact e7
  have l7 : 0 ≤ (1 * x5.toInt + (8 * x7.toInt + 0)) + -8 := by
    obtain ⟨z, e6, e7⟩ := m3 ([(5, 1), (7, 8)], -8) (List.mem_of_getElem? (i := 7) rfl)
    obtain rfl : (1 * x5.toInt + (8 * x7.toInt + 0)) = z := Option.some.inj (show some (1 * x5.toInt + (8 * x7.toInt + 0)) = some z from e6)
    exact e7
  have l8 : 0 ≤ (-1 * x5.toInt + (8 * x7.toInt + 0)) + 55 := by
    obtain ⟨z, e6, e7⟩ := m3 ([(5, -1), (7, 8)], 55) (List.mem_of_getElem? (i := 8) rfl)
    obtain rfl : (-1 * x5.toInt + (8 * x7.toInt + 0)) = z := Option.some.inj (show some (-1 * x5.toInt + (8 * x7.toInt + 0)) = some z from e6)
    exact e7
  have f0 : fB K n p 26 [fR x0, fI x3, fI x1, fI x4] σ := by
    obtain ⟨w, e6, e7⟩ := m4 (420, [0, 3, 1, 4]) (List.mem_of_getElem? (i := 0) rfl)
    obtain rfl : [fR x0, fI x3, fI x1, fI x4] = w := Option.some.inj (show some [fR x0, fI x3, fI x1, fI x4] = some w from e6)
    exact (fF_b (r := 420) (by decide) rfl).mp e7
  have f1 : fB K n p 34 [fI x4] σ := by
    obtain ⟨w, e6, e7⟩ := m4 (545, [4]) (List.mem_of_getElem? (i := 1) rfl)
    obtain rfl : [fI x4] = w := Option.some.inj (show some [fI x4] = some w from e6)
    exact (fF_b (r := 545) (by decide) rfl).mp e7
  clear m1 m2 m3 m4
  have q0 : fB K n p 27 [fR x0, fI x3, fI x1, fI x4] (jup σ x0 (jsto (σ x0) x1.toNatClampNeg x2)) := by
    obtain ⟨a, lo, hi, s, e, h0⟩ := f0
    cases e
    obtain ⟨s, e, h1⟩ := f1
    cases e
    refine ⟨x0, x3, x1, x4, rfl, ?_⟩
    refine fLl_st h0 (fun _ => ?_) (fun k hk h9 => ?_)
    · have hm := fMk (m := x2) (f := x4.toInt) (t := x5.toInt) (b := x6.toInt) (by omega) (by omega) (by omega) (by omega)
      have hf : fMf x2 = x4.toNatClampNeg := by rw [fNc]; omega
      refine ⟨⟨1, by omega, by rw [hf]; exact h1, by omega, by omega, by omega, by omega, by omega, by omega, by omega, by omega⟩, hf⟩
    · rw [fNc] at hk
      omega
  refine ⟨p, fun _ => rfl, ⟨fun q h => (by cases h), fun q h => (by cases h), ?_, ?_⟩, [], List.mem_cons_self, fun f h => (by cases h)⟩
  · exact fun f h => by cases h
  · exact (aAllc ⟨_, rfl, fF_p (r := 436) (by decide) (by decide) rfl q0⟩ (fun f h => by cases h))
theorem rw_ruGDSE {K : Nat → Nat} {n : Nat} : aGho (fF K n) fa_T K n (fJX K n) ag_ruGDSE := by
  refine aGho_of ⟨rfl, rfl⟩ ?_
  intro p σ ρ hH hX hA hM
  have hG := aAG_of hA.1 (fun i e v he hv => (hA.2 i e v he hv).1)
  clear hA
  obtain ⟨v0, v1, v2, v3, v4, v5, v6, v7, v8, rfl, g0, g1, g2, g3, g4, g5, g6, g7, g8⟩ := fA_9 hG
  clear hG
  obtain ⟨x0, rfl, b0, d0⟩ := fG_ref (by decide) g0
  obtain ⟨x1, rfl, b1, d1⟩ := aG_int g1
  dsimp only at b1 d1
  obtain ⟨x2, rfl, b2, d2⟩ := aG_int g2
  dsimp only at b2 d2
  obtain ⟨x3, rfl, b3, d3⟩ := aG_int g3
  dsimp only at b3 d3
  obtain ⟨x4, rfl, b4, d4⟩ := aG_int g4
  dsimp only at b4 d4
  obtain ⟨x5, rfl, b5, d5⟩ := fG_ref (by decide) g5
  obtain ⟨x6, rfl, b6, d6⟩ := aG_int g6
  dsimp only at b6 d6
  obtain ⟨x7, rfl, b7, d7⟩ := aG_int g7
  dsimp only at b7 d7
  obtain ⟨x8, rfl, b8, d8⟩ := aG_int g8
  dsimp only at b8 d8
  obtain ⟨m1, m2, m3, m4⟩ := hM
  obtain ⟨a0, c0, fs0, w0, e1, s0, t0, e4⟩ := m1 (5, 2, 8) (List.mem_of_getElem? (i := 0) rfl)
  obtain rfl : x5 = a0 := Sum.inl.inj (Option.some.inj (Sum.inr.inj (Sum.inr.inj (Option.some.inj (show some (fR x5) = some _ from e1)))))
  obtain rfl : fI x8 = w0 := Option.some.inj (show some (fI x8) = some _ from e4)
  clear e1 e4
  have l0 : 0 ≤ (1 * x2.toInt + (-504 * x4.toInt + (-16 * x6.toInt + 0))) + 0 := by
    obtain ⟨z, e6, e7⟩ := m3 ([(2, 1), (4, -504), (6, -16)], 0) (List.mem_of_getElem? (i := 0) rfl)
    obtain rfl : (1 * x2.toInt + (-504 * x4.toInt + (-16 * x6.toInt + 0))) = z := Option.some.inj (show some (1 * x2.toInt + (-504 * x4.toInt + (-16 * x6.toInt + 0))) = some z from e6)
    exact e7
  have l1 : 0 ≤ (-1 * x2.toInt + (504 * x4.toInt + (16 * x6.toInt + 0))) + 0 := by
    obtain ⟨z, e6, e7⟩ := m3 ([(2, -1), (4, 504), (6, 16)], 0) (List.mem_of_getElem? (i := 1) rfl)
    obtain rfl : (-1 * x2.toInt + (504 * x4.toInt + (16 * x6.toInt + 0))) = z := Option.some.inj (show some (-1 * x2.toInt + (504 * x4.toInt + (16 * x6.toInt + 0))) = some z from e6)
    exact e7
  have l2 : 0 ≤ (1 * x1.toInt + (-1 * x3.toInt + 0)) + 0 := by
    obtain ⟨z, e6, e7⟩ := m3 ([(1, 1), (3, -1)], 0) (List.mem_of_getElem? (i := 2) rfl)
    obtain rfl : (1 * x1.toInt + (-1 * x3.toInt + 0)) = z := Option.some.inj (show some (1 * x1.toInt + (-1 * x3.toInt + 0)) = some z from e6)
    exact e7
  have l3 : 0 ≤ (1 * x6.toInt + (-1 * x4.toInt + (16 * x8.toInt + 0))) + -8 := by
    obtain ⟨z, e6, e7⟩ := m3 ([(6, 1), (4, -1), (8, 16)], -8) (List.mem_of_getElem? (i := 3) rfl)
    obtain rfl : (1 * x6.toInt + (-1 * x4.toInt + (16 * x8.toInt + 0))) = z := Option.some.inj (show some (1 * x6.toInt + (-1 * x4.toInt + (16 * x8.toInt + 0))) = some z from e6)
    exact e7
  have l4 : 0 ≤ (-1 * x6.toInt + (1 * x4.toInt + (-16 * x8.toInt + 0))) + 8 := by
    obtain ⟨z, e6, e7⟩ := m3 ([(6, -1), (4, 1), (8, -16)], 8) (List.mem_of_getElem? (i := 4) rfl)
    obtain rfl : (-1 * x6.toInt + (1 * x4.toInt + (-16 * x8.toInt + 0))) = z := Option.some.inj (show some (-1 * x6.toInt + (1 * x4.toInt + (-16 * x8.toInt + 0))) = some z from e6)
    exact e7
  have l5 : 0 ≤ (1 * x4.toInt + (-40 * x8.toInt + 0)) + -8 := by
    obtain ⟨z, e6, e7⟩ := m3 ([(4, 1), (8, -40)], -8) (List.mem_of_getElem? (i := 5) rfl)
    obtain rfl : (1 * x4.toInt + (-40 * x8.toInt + 0)) = z := Option.some.inj (show some (1 * x4.toInt + (-40 * x8.toInt + 0)) = some z from e6)
    exact e7
  have l6 : 0 ≤ (-1 * x4.toInt + (40 * x8.toInt + 0)) + 15 := by
    obtain ⟨z, e6, e7⟩ := m3 ([(4, -1), (8, 40)], 15) (List.mem_of_getElem? (i := 6) rfl)
    obtain rfl : (-1 * x4.toInt + (40 * x8.toInt + 0)) = z := Option.some.inj (show some (-1 * x4.toInt + (40 * x8.toInt + 0)) = some z from e6)
    exact e7
  have f0 : fB K n p 1 [fR x5] σ := by
    obtain ⟨w, e6, e7⟩ := m4 (17, [5]) (List.mem_of_getElem? (i := 0) rfl)
    obtain rfl : [fR x5] = w := Option.some.inj (show some [fR x5] = some w from e6)
    exact (fF_b (r := 17) (by decide) rfl).mp e7
  have f1 : fB K n p 26 [fR x0, fI x3, fI x1, fI x4] σ := by
    obtain ⟨w, e6, e7⟩ := m4 (420, [0, 3, 1, 4]) (List.mem_of_getElem? (i := 1) rfl)
    obtain rfl : [fR x0, fI x3, fI x1, fI x4] = w := Option.some.inj (show some [fR x0, fI x3, fI x1, fI x4] = some w from e6)
    exact (fF_b (r := 420) (by decide) rfl).mp e7
  have f2 : fB K n p 34 [fI x4] σ := by
    obtain ⟨w, e6, e7⟩ := m4 (545, [4]) (List.mem_of_getElem? (i := 2) rfl)
    obtain rfl : [fI x4] = w := Option.some.inj (show some [fI x4] = some w from e6)
    exact (fF_b (r := 545) (by decide) rfl).mp e7
  have f3 : fB K n p 39 [fI x6, fI x7] σ := by
    obtain ⟨w, e6, e7⟩ := m4 (626, [6, 7]) (List.mem_of_getElem? (i := 3) rfl)
    obtain rfl : [fI x6, fI x7] = w := Option.some.inj (show some [fI x6, fI x7] = some w from e6)
    exact (fF_b (r := 626) (by decide) rfl).mp e7
  clear m1 m2 m3 m4
  have q0 : fB K n p 27 [fR x0, fI x3, fI x1, fI x4] (jup σ x0 (jsto (σ x0) x1.toNatClampNeg x2)) := by
    obtain ⟨a, e, h9, hg⟩ := f0
    cases e
    have hF := fAt_of h9 s0
    have hs := hF.2.1 _ t0
    obtain ⟨a, lo, hi, s, e, h0⟩ := f1
    cases e
    obtain ⟨s, e, h1⟩ := f2
    cases e
    obtain ⟨s, v, e, h2⟩ := f3
    cases e
    refine ⟨x0, x3, x1, x4, rfl, ?_⟩
    refine fLl_st h0 (fun _ => ?_) (fun k hk h9 => ?_)
    · have hm := fMk (m := x2) (f := x4.toInt) (t := 2 * x6.toInt - x4.toInt) (b := 0) (by omega) (by omega) (by omega) (by omega)
      have hf : fMf x2 = x4.toNatClampNeg := by rw [fNc]; omega
      have hz : ((fq p).1 x6.toNatClampNeg).toInt = 0 := by rw [h2]; omega
      refine ⟨⟨1, by omega, by rw [hf]; exact h1, by omega, by omega, by omega, by omega, by omega, by omega, by omega, fun _ _ => ⟨by omega, ?_, fun hq => ?_, fun hq => ?_⟩⟩, hf⟩
      · rw [show (fMf x2 + fMt x2) / 2 = x6.toNatClampNeg by rw [fNc]; omega]
        exact hz
      · rw [← hs] at hq
        omega
      · rw [← hs] at hq
        omega
    · rw [fNc] at hk
      omega
  refine ⟨p, fun _ => rfl, ⟨fun q h => (by cases h), fun q h => (by cases h), ?_, ?_⟩, [], List.mem_cons_self, fun f h => (by cases h)⟩
  · exact fun f h => by cases h
  · exact (aAllc ⟨_, rfl, fF_p (r := 436) (by decide) (by decide) rfl q0⟩ (fun f h => by cases h))
theorem rw_ruLL0PR {K : Nat → Nat} {n : Nat} : aGho (fF K n) fa_T K n (fJX K n) ag_ruLL0PR := by
  refine aGho_of ⟨rfl, rfl⟩ ?_
  intro p σ ρ hH hX hA hM
  have hG := aAG_of hA.1 (fun i e v he hv => (hA.2 i e v he hv).1)
  clear hA
  obtain ⟨v0, v1, v2, rfl, g0, g1, g2⟩ := fA_3 hG
  clear hG
  obtain ⟨x0, rfl, b0, d0⟩ := fG_ref (by decide) g0
  obtain ⟨x1, rfl, b1, d1⟩ := aG_int g1
  dsimp only at b1 d1
  obtain ⟨x2, rfl, b2, d2⟩ := aG_int g2
  dsimp only at b2 d2
  obtain ⟨m1, m2, m3, m4⟩ := hM
  clear m1 m2 m3 m4
  have q0 : fB K n p 26 [fR x0, fI x1, fI x1, fI x2] σ := by
    obtain ⟨g, h1⟩ := fRow hH b0 d0 rfl (by decide)
    exact ⟨x0, x1, x1, x2, rfl, b0, by unfold fRw; omega, _, g, h1, fun k hk => by dsimp only at hk; omega⟩
  refine ⟨p, fun _ => rfl, ⟨fun q h => (by cases h), fun q h => (by cases h), ?_, ?_⟩, [], List.mem_cons_self, fun f h => (by cases h)⟩
  · exact fun f h => by cases h
  · exact (aAllc ⟨_, rfl, (fF_b (r := 420) (by decide) rfl).mpr q0⟩ (fun f h => by cases h))
theorem rw_ruLXnPR {K : Nat → Nat} {n : Nat} : aGho (fF K n) fa_T K n (fJX K n) ag_ruLXnPR := by
  refine aGho_of ⟨rfl, rfl⟩ ?_
  intro p σ ρ hH hX hA hM
  have hG := aAG_of hA.1 (fun i e v he hv => (hA.2 i e v he hv).1)
  clear hA
  obtain ⟨v0, v1, v2, v3, v4, rfl, g0, g1, g2, g3, g4⟩ := fA_5 hG
  clear hG
  obtain ⟨x0, rfl, b0, d0⟩ := fG_ref (by decide) g0
  obtain ⟨x1, rfl, b1, d1⟩ := aG_int g1
  dsimp only at b1 d1
  obtain ⟨x2, rfl, b2, d2⟩ := aG_int g2
  dsimp only at b2 d2
  obtain ⟨x3, rfl, b3, d3⟩ := aG_int g3
  dsimp only at b3 d3
  obtain ⟨x4, rfl, b4, d4⟩ := aG_int g4
  dsimp only at b4 d4
  obtain ⟨m1, m2, m3, m4⟩ := hM
  have l0 : 0 ≤ (1 * x4.toInt + (-1 * x2.toInt + 0)) + -1 := by
    obtain ⟨z, e6, e7⟩ := m3 ([(4, 1), (2, -1)], -1) (List.mem_of_getElem? (i := 0) rfl)
    obtain rfl : (1 * x4.toInt + (-1 * x2.toInt + 0)) = z := Option.some.inj (show some (1 * x4.toInt + (-1 * x2.toInt + 0)) = some z from e6)
    exact e7
  have l1 : 0 ≤ (-1 * x4.toInt + (1 * x2.toInt + 0)) + 1 := by
    obtain ⟨z, e6, e7⟩ := m3 ([(4, -1), (2, 1)], 1) (List.mem_of_getElem? (i := 1) rfl)
    obtain rfl : (-1 * x4.toInt + (1 * x2.toInt + 0)) = z := Option.some.inj (show some (-1 * x4.toInt + (1 * x2.toInt + 0)) = some z from e6)
    exact e7
  have f0 : fB K n p 27 [fR x0, fI x1, fI x2, fI x3] σ := by
    obtain ⟨w, e6, e7⟩ := m4 (436, [0, 1, 2, 3]) (List.mem_of_getElem? (i := 0) rfl)
    obtain rfl : [fR x0, fI x1, fI x2, fI x3] = w := Option.some.inj (show some [fR x0, fI x1, fI x2, fI x3] = some w from e6)
    exact (fF_b (r := 436) (by decide) rfl).mp e7
  clear m1 m2 m3 m4
  have q0 : fB K n p 26 [fR x0, fI x1, fI x4, fI x3] σ := by
    obtain ⟨a, lo, hi, s, e, h1, h2, m, g, h3, h4⟩ := f0
    cases e
    exact ⟨x0, x1, x4, x3, rfl, h1, h2, m, g, h3, fun k hk => h4 k (by dsimp only at hk ⊢; omega)⟩
  refine ⟨p, fun _ => rfl, ⟨fun q h => (by cases h), fun q h => (by cases h), ?_, ?_⟩, [], List.mem_cons_self, fun f h => (by cases h)⟩
  · exact fun f h => by cases h
  · exact (aAllc ⟨_, rfl, (fF_b (r := 420) (by decide) rfl).mpr q0⟩ (fun f h => by cases h))
theorem rw_ruGSPR {K : Nat → Nat} {n : Nat} : aGho (fF K n) fa_T K n (fJX K n) ag_ruGSPR := by
  refine aGho_of ⟨rfl, rfl⟩ ?_
  intro p σ ρ hH hX hA hM
  have hG := aAG_of hA.1 (fun i e v he hv => (hA.2 i e v he hv).1)
  clear hA
  obtain ⟨v0, v1, v2, v3, v4, v5, v6, v7, v8, rfl, g0, g1, g2, g3, g4, g5, g6, g7, g8⟩ := fA_9 hG
  clear hG
  obtain ⟨x0, rfl, b0, d0⟩ := fG_ref (by decide) g0
  obtain ⟨x1, rfl, b1, d1⟩ := aG_int g1
  dsimp only at b1 d1
  obtain ⟨x2, rfl, b2, d2⟩ := aG_int g2
  dsimp only at b2 d2
  obtain ⟨x3, rfl, b3, d3⟩ := aG_int g3
  dsimp only at b3 d3
  obtain ⟨x4, rfl, b4, d4⟩ := aG_int g4
  dsimp only at b4 d4
  obtain ⟨x5, rfl, b5, d5⟩ := aG_int g5
  dsimp only at b5 d5
  obtain ⟨x6, rfl, b6, d6⟩ := aG_int g6
  dsimp only at b6 d6
  obtain ⟨x7, rfl, b7, d7⟩ := aG_int g7
  dsimp only at b7 d7
  obtain ⟨x8, rfl, b8, d8⟩ := aG_int g8
  dsimp only at b8 d8
  obtain ⟨m1, m2, m3, m4⟩ := hM
  have l0 : 0 ≤ (1 * x2.toInt + (-512 * x4.toInt + (-8 * x5.toInt + 0))) + 0 := by
    obtain ⟨z, e6, e7⟩ := m3 ([(2, 1), (4, -512), (5, -8)], 0) (List.mem_of_getElem? (i := 0) rfl)
    obtain rfl : (1 * x2.toInt + (-512 * x4.toInt + (-8 * x5.toInt + 0))) = z := Option.some.inj (show some (1 * x2.toInt + (-512 * x4.toInt + (-8 * x5.toInt + 0))) = some z from e6)
    exact e7
  have l1 : 0 ≤ (-1 * x2.toInt + (512 * x4.toInt + (8 * x5.toInt + 0))) + 0 := by
    obtain ⟨z, e6, e7⟩ := m3 ([(2, -1), (4, 512), (5, 8)], 0) (List.mem_of_getElem? (i := 1) rfl)
    obtain rfl : (-1 * x2.toInt + (512 * x4.toInt + (8 * x5.toInt + 0))) = z := Option.some.inj (show some (-1 * x2.toInt + (512 * x4.toInt + (8 * x5.toInt + 0))) = some z from e6)
    exact e7
  have l2 : 0 ≤ (1 * x1.toInt + (-1 * x3.toInt + 0)) + 0 := by
    obtain ⟨z, e6, e7⟩ := m3 ([(1, 1), (3, -1)], 0) (List.mem_of_getElem? (i := 2) rfl)
    obtain rfl : (1 * x1.toInt + (-1 * x3.toInt + 0)) = z := Option.some.inj (show some (1 * x1.toInt + (-1 * x3.toInt + 0)) = some z from e6)
    exact e7
  have f0 : fB K n p 26 [fR x0, fI x3, fI x1, fI x4] σ := by
    obtain ⟨w, e6, e7⟩ := m4 (420, [0, 3, 1, 4]) (List.mem_of_getElem? (i := 0) rfl)
    obtain rfl : [fR x0, fI x3, fI x1, fI x4] = w := Option.some.inj (show some [fR x0, fI x3, fI x1, fI x4] = some w from e6)
    exact (fF_b (r := 420) (by decide) rfl).mp e7
  have f1 : fB K n p 25 [fI x4, fI x6] σ := by
    obtain ⟨w, e6, e7⟩ := m4 (402, [4, 6]) (List.mem_of_getElem? (i := 1) rfl)
    obtain rfl : [fI x4, fI x6] = w := Option.some.inj (show some [fI x4, fI x6] = some w from e6)
    exact (fF_b (r := 402) (by decide) rfl).mp e7
  have f2 : fB K n p 31 [fI x6] σ := by
    obtain ⟨w, e6, e7⟩ := m4 (497, [6]) (List.mem_of_getElem? (i := 2) rfl)
    obtain rfl : [fI x6] = w := Option.some.inj (show some [fI x6] = some w from e6)
    exact (fF_b (r := 497) (by decide) rfl).mp e7
  have f3 : fB K n p 18 [fI x4, fI x7, fI x8, fI x5] σ := by
    obtain ⟨w, e6, e7⟩ := m4 (292, [4, 7, 8, 5]) (List.mem_of_getElem? (i := 3) rfl)
    obtain rfl : [fI x4, fI x7, fI x8, fI x5] = w := Option.some.inj (show some [fI x4, fI x7, fI x8, fI x5] = some w from e6)
    exact (fF_b (r := 292) (by decide) rfl).mp e7
  clear m1 m2 m3 m4
  have q0 : fB K n p 27 [fR x0, fI x3, fI x1, fI x4] (jup σ x0 (jsto (σ x0) x1.toNatClampNeg x2)) := by
    obtain ⟨a, lo, hi, s, e, h0⟩ := f0
    cases e
    obtain ⟨s, k, e, h1⟩ := f1
    cases e
    obtain ⟨k, e, h2, h3⟩ := f2
    cases e
    obtain ⟨s, i, k, t, e, h4, h5, h6⟩ := f3
    cases e
    have h7 := fRay b4 d4 b7 d7 h4 h5
    refine ⟨x0, x3, x1, x4, rfl, ?_⟩
    refine fLl_st h0 (fun _ => ?_) (fun k hk h9 => ?_)
    · have hm := fMk (m := x2) (f := x4.toInt) (t := x5.toInt) (b := 0) (by omega) (by omega) (by omega) (by omega)
      have hf : fMf x2 = x4.toNatClampNeg := by rw [fNc]; omega
      have hk : x6.toNatClampNeg = x6.toInt.toNat := rfl
      refine ⟨⟨x6.toNatClampNeg, by omega, by rw [hf]; exact h1, by omega, by omega, by omega, by omega, by omega, by omega, by omega, by omega⟩, hf⟩
    · rw [fNc] at hk
      omega
  refine ⟨p, fun _ => rfl, ⟨fun q h => (by cases h), fun q h => (by cases h), ?_, ?_⟩, [], List.mem_cons_self, fun f h => (by cases h)⟩
  · exact fun f h => by cases h
  · exact (aAllc ⟨_, rfl, fF_p (r := 436) (by decide) (by decide) rfl q0⟩ (fun f h => by cases h))
theorem rw_ruGHPR {K : Nat → Nat} {n : Nat} : aGho (fF K n) fa_T K n (fJX K n) ag_ruGHPR := by
  refine aGho_of ⟨rfl, rfl⟩ ?_
  intro p σ ρ hH hX hA hM
  have hG := aAG_of hA.1 (fun i e v he hv => (hA.2 i e v he hv).1)
  clear hA
  obtain ⟨v0, v1, v2, v3, v4, v5, v6, rfl, g0, g1, g2, g3, g4, g5, g6⟩ := fA_7 hG
  clear hG
  obtain ⟨x0, rfl, b0, d0⟩ := fG_ref (by decide) g0
  obtain ⟨x1, rfl, b1, d1⟩ := aG_int g1
  dsimp only at b1 d1
  obtain ⟨x2, rfl, b2, d2⟩ := aG_int g2
  dsimp only at b2 d2
  obtain ⟨x3, rfl, b3, d3⟩ := aG_int g3
  dsimp only at b3 d3
  obtain ⟨x4, rfl, b4, d4⟩ := aG_int g4
  dsimp only at b4 d4
  obtain ⟨x5, rfl, b5, d5⟩ := aG_int g5
  dsimp only at b5 d5
  obtain ⟨x6, rfl, b6, d6⟩ := aG_int g6
  dsimp only at b6 d6
  obtain ⟨m1, m2, m3, m4⟩ := hM
  have l0 : 0 ≤ (1 * x2.toInt + (-512 * x4.toInt + (-8 * x5.toInt + 0))) + 0 := by
    obtain ⟨z, e6, e7⟩ := m3 ([(2, 1), (4, -512), (5, -8)], 0) (List.mem_of_getElem? (i := 0) rfl)
    obtain rfl : (1 * x2.toInt + (-512 * x4.toInt + (-8 * x5.toInt + 0))) = z := Option.some.inj (show some (1 * x2.toInt + (-512 * x4.toInt + (-8 * x5.toInt + 0))) = some z from e6)
    exact e7
  have l1 : 0 ≤ (-1 * x2.toInt + (512 * x4.toInt + (8 * x5.toInt + 0))) + 0 := by
    obtain ⟨z, e6, e7⟩ := m3 ([(2, -1), (4, 512), (5, 8)], 0) (List.mem_of_getElem? (i := 1) rfl)
    obtain rfl : (-1 * x2.toInt + (512 * x4.toInt + (8 * x5.toInt + 0))) = z := Option.some.inj (show some (-1 * x2.toInt + (512 * x4.toInt + (8 * x5.toInt + 0))) = some z from e6)
    exact e7
  have l2 : 0 ≤ (1 * x1.toInt + (-1 * x3.toInt + 0)) + 0 := by
    obtain ⟨z, e6, e7⟩ := m3 ([(1, 1), (3, -1)], 0) (List.mem_of_getElem? (i := 2) rfl)
    obtain rfl : (1 * x1.toInt + (-1 * x3.toInt + 0)) = z := Option.some.inj (show some (1 * x1.toInt + (-1 * x3.toInt + 0)) = some z from e6)
    exact e7
  have f0 : fB K n p 26 [fR x0, fI x3, fI x1, fI x4] σ := by
    obtain ⟨w, e6, e7⟩ := m4 (420, [0, 3, 1, 4]) (List.mem_of_getElem? (i := 0) rfl)
    obtain rfl : [fR x0, fI x3, fI x1, fI x4] = w := Option.some.inj (show some [fR x0, fI x3, fI x1, fI x4] = some w from e6)
    exact (fF_b (r := 420) (by decide) rfl).mp e7
  have f1 : fB K n p 35 [fI x4] σ := by
    obtain ⟨w, e6, e7⟩ := m4 (561, [4]) (List.mem_of_getElem? (i := 1) rfl)
    obtain rfl : [fI x4] = w := Option.some.inj (show some [fI x4] = some w from e6)
    exact (fF_b (r := 561) (by decide) rfl).mp e7
  have f2 : fB K n p 37 [fI x4, fI x6, fI x5] σ := by
    obtain ⟨w, e6, e7⟩ := m4 (595, [4, 6, 5]) (List.mem_of_getElem? (i := 2) rfl)
    obtain rfl : [fI x4, fI x6, fI x5] = w := Option.some.inj (show some [fI x4, fI x6, fI x5] = some w from e6)
    exact (fF_b (r := 595) (by decide) rfl).mp e7
  clear m1 m2 m3 m4
  have q0 : fB K n p 27 [fR x0, fI x3, fI x1, fI x4] (jup σ x0 (jsto (σ x0) x1.toNatClampNeg x2)) := by
    obtain ⟨a, lo, hi, s, e, h0⟩ := f0
    cases e
    obtain ⟨s, e, h1⟩ := f1
    cases e
    obtain ⟨s, i, t, e, h2, h3, h4⟩ := f2
    cases e
    refine ⟨x0, x3, x1, x4, rfl, ?_⟩
    refine fLl_st h0 (fun _ => ?_) (fun k hk h9 => ?_)
    · have hm := fMk (m := x2) (f := x4.toInt) (t := x5.toInt) (b := 0) (by omega) (by omega) (by omega) (by omega)
      have hf : fMf x2 = x4.toNatClampNeg := by rw [fNc]; omega
      refine ⟨⟨2, by omega, by rw [hf]; exact h1, by omega, by omega, by omega, by omega, by omega, by omega, by omega, by omega⟩, hf⟩
    · rw [fNc] at hk
      omega
  refine ⟨p, fun _ => rfl, ⟨fun q h => (by cases h), fun q h => (by cases h), ?_, ?_⟩, [], List.mem_cons_self, fun f h => (by cases h)⟩
  · exact fun f h => by cases h
  · exact (aAllc ⟨_, rfl, fF_p (r := 436) (by decide) (by decide) rfl q0⟩ (fun f h => by cases h))
theorem rw_ruGKPR {K : Nat → Nat} {n : Nat} : aGho (fF K n) fa_T K n (fJX K n) ag_ruGKPR := by
  refine aGho_of ⟨rfl, rfl⟩ ?_
  intro p σ ρ hH hX hA hM
  have hG := aAG_of hA.1 (fun i e v he hv => (hA.2 i e v he hv).1)
  clear hA
  obtain ⟨v0, v1, v2, v3, v4, v5, v6, rfl, g0, g1, g2, g3, g4, g5, g6⟩ := fA_7 hG
  clear hG
  obtain ⟨x0, rfl, b0, d0⟩ := fG_ref (by decide) g0
  obtain ⟨x1, rfl, b1, d1⟩ := aG_int g1
  dsimp only at b1 d1
  obtain ⟨x2, rfl, b2, d2⟩ := aG_int g2
  dsimp only at b2 d2
  obtain ⟨x3, rfl, b3, d3⟩ := aG_int g3
  dsimp only at b3 d3
  obtain ⟨x4, rfl, b4, d4⟩ := aG_int g4
  dsimp only at b4 d4
  obtain ⟨x5, rfl, b5, d5⟩ := aG_int g5
  dsimp only at b5 d5
  obtain ⟨x6, rfl, b6, d6⟩ := aG_int g6
  dsimp only at b6 d6
  obtain ⟨m1, m2, m3, m4⟩ := hM
  have l0 : 0 ≤ (1 * x2.toInt + (-512 * x4.toInt + (-8 * x5.toInt + 0))) + 0 := by
    obtain ⟨z, e6, e7⟩ := m3 ([(2, 1), (4, -512), (5, -8)], 0) (List.mem_of_getElem? (i := 0) rfl)
    obtain rfl : (1 * x2.toInt + (-512 * x4.toInt + (-8 * x5.toInt + 0))) = z := Option.some.inj (show some (1 * x2.toInt + (-512 * x4.toInt + (-8 * x5.toInt + 0))) = some z from e6)
    exact e7
  have l1 : 0 ≤ (-1 * x2.toInt + (512 * x4.toInt + (8 * x5.toInt + 0))) + 0 := by
    obtain ⟨z, e6, e7⟩ := m3 ([(2, -1), (4, 512), (5, 8)], 0) (List.mem_of_getElem? (i := 1) rfl)
    obtain rfl : (-1 * x2.toInt + (512 * x4.toInt + (8 * x5.toInt + 0))) = z := Option.some.inj (show some (-1 * x2.toInt + (512 * x4.toInt + (8 * x5.toInt + 0))) = some z from e6)
    exact e7
  have l2 : 0 ≤ (1 * x1.toInt + (-1 * x3.toInt + 0)) + 0 := by
    obtain ⟨z, e6, e7⟩ := m3 ([(1, 1), (3, -1)], 0) (List.mem_of_getElem? (i := 2) rfl)
    obtain rfl : (1 * x1.toInt + (-1 * x3.toInt + 0)) = z := Option.some.inj (show some (1 * x1.toInt + (-1 * x3.toInt + 0)) = some z from e6)
    exact e7
  have f0 : fB K n p 26 [fR x0, fI x3, fI x1, fI x4] σ := by
    obtain ⟨w, e6, e7⟩ := m4 (420, [0, 3, 1, 4]) (List.mem_of_getElem? (i := 0) rfl)
    obtain rfl : [fR x0, fI x3, fI x1, fI x4] = w := Option.some.inj (show some [fR x0, fI x3, fI x1, fI x4] = some w from e6)
    exact (fF_b (r := 420) (by decide) rfl).mp e7
  have f1 : fB K n p 36 [fI x4] σ := by
    obtain ⟨w, e6, e7⟩ := m4 (577, [4]) (List.mem_of_getElem? (i := 1) rfl)
    obtain rfl : [fI x4] = w := Option.some.inj (show some [fI x4] = some w from e6)
    exact (fF_b (r := 577) (by decide) rfl).mp e7
  have f2 : fB K n p 37 [fI x4, fI x6, fI x5] σ := by
    obtain ⟨w, e6, e7⟩ := m4 (595, [4, 6, 5]) (List.mem_of_getElem? (i := 2) rfl)
    obtain rfl : [fI x4, fI x6, fI x5] = w := Option.some.inj (show some [fI x4, fI x6, fI x5] = some w from e6)
    exact (fF_b (r := 595) (by decide) rfl).mp e7
  clear m1 m2 m3 m4
  have q0 : fB K n p 27 [fR x0, fI x3, fI x1, fI x4] (jup σ x0 (jsto (σ x0) x1.toNatClampNeg x2)) := by
    obtain ⟨a, lo, hi, s, e, h0⟩ := f0
    cases e
    obtain ⟨s, e, h1⟩ := f1
    cases e
    obtain ⟨s, i, t, e, h2, h3, h4⟩ := f2
    cases e
    refine ⟨x0, x3, x1, x4, rfl, ?_⟩
    refine fLl_st h0 (fun _ => ?_) (fun k hk h9 => ?_)
    · have hm := fMk (m := x2) (f := x4.toInt) (t := x5.toInt) (b := 0) (by omega) (by omega) (by omega) (by omega)
      have hf : fMf x2 = x4.toNatClampNeg := by rw [fNc]; omega
      refine ⟨⟨6, by omega, by rw [hf]; exact h1, by omega, by omega, by omega, by omega, by omega, by omega, by omega, by omega⟩, hf⟩
    · rw [fNc] at hk
      omega
  refine ⟨p, fun _ => rfl, ⟨fun q h => (by cases h), fun q h => (by cases h), ?_, ?_⟩, [], List.mem_cons_self, fun f h => (by cases h)⟩
  · exact fun f h => by cases h
  · exact (aAllc ⟨_, rfl, fF_p (r := 436) (by decide) (by decide) rfl q0⟩ (fun f h => by cases h))
theorem rw_ruGCsPR {K : Nat → Nat} {n : Nat} : aGho (fF K n) fa_T K n (fJX K n) ag_ruGCsPR := by
  refine aGho_of ⟨rfl, rfl⟩ ?_
  intro p σ ρ hH hX hA hM
  have hG := aAG_of hA.1 (fun i e v he hv => (hA.2 i e v he hv).1)
  clear hA
  obtain ⟨v0, v1, v2, v3, v4, v5, v6, v7, v8, rfl, g0, g1, g2, g3, g4, g5, g6, g7, g8⟩ := fA_9 hG
  clear hG
  obtain ⟨x0, rfl, b0, d0⟩ := fG_ref (by decide) g0
  obtain ⟨x1, rfl, b1, d1⟩ := aG_int g1
  dsimp only at b1 d1
  obtain ⟨x2, rfl, b2, d2⟩ := aG_int g2
  dsimp only at b2 d2
  obtain ⟨x3, rfl, b3, d3⟩ := aG_int g3
  dsimp only at b3 d3
  obtain ⟨x4, rfl, b4, d4⟩ := aG_int g4
  dsimp only at b4 d4
  obtain ⟨x5, rfl, b5, d5⟩ := aG_int g5
  dsimp only at b5 d5
  obtain ⟨x6, rfl, b6, d6⟩ := aG_int g6
  dsimp only at b6 d6
  obtain ⟨x7, rfl, b7, d7⟩ := fG_ref (by decide) g7
  obtain ⟨x8, rfl, b8, d8⟩ := aG_int g8
  dsimp only at b8 d8
  obtain ⟨m1, m2, m3, m4⟩ := hM
  obtain ⟨a0, c0, fs0, w0, e1, s0, t0, e4⟩ := m1 (7, 2, 8) (List.mem_of_getElem? (i := 0) rfl)
  obtain rfl : x7 = a0 := Sum.inl.inj (Option.some.inj (Sum.inr.inj (Sum.inr.inj (Option.some.inj (show some (fR x7) = some _ from e1)))))
  obtain rfl : fI x8 = w0 := Option.some.inj (show some (fI x8) = some _ from e4)
  clear e1 e4
  have l0 : 0 ≤ (1 * x2.toInt + (-520 * x4.toInt + 0)) + -16 := by
    obtain ⟨z, e6, e7⟩ := m3 ([(2, 1), (4, -520)], -16) (List.mem_of_getElem? (i := 0) rfl)
    obtain rfl : (1 * x2.toInt + (-520 * x4.toInt + 0)) = z := Option.some.inj (show some (1 * x2.toInt + (-520 * x4.toInt + 0)) = some z from e6)
    exact e7
  have l1 : 0 ≤ (-1 * x2.toInt + (520 * x4.toInt + 0)) + 16 := by
    obtain ⟨z, e6, e7⟩ := m3 ([(2, -1), (4, 520)], 16) (List.mem_of_getElem? (i := 1) rfl)
    obtain rfl : (-1 * x2.toInt + (520 * x4.toInt + 0)) = z := Option.some.inj (show some (-1 * x2.toInt + (520 * x4.toInt + 0)) = some z from e6)
    exact e7
  have l2 : 0 ≤ (1 * x4.toInt + (-56 * x8.toInt + 0)) + -4 := by
    obtain ⟨z, e6, e7⟩ := m3 ([(4, 1), (8, -56)], -4) (List.mem_of_getElem? (i := 2) rfl)
    obtain rfl : (1 * x4.toInt + (-56 * x8.toInt + 0)) = z := Option.some.inj (show some (1 * x4.toInt + (-56 * x8.toInt + 0)) = some z from e6)
    exact e7
  have l3 : 0 ≤ (-1 * x4.toInt + (56 * x8.toInt + 0)) + 4 := by
    obtain ⟨z, e6, e7⟩ := m3 ([(4, -1), (8, 56)], 4) (List.mem_of_getElem? (i := 3) rfl)
    obtain rfl : (-1 * x4.toInt + (56 * x8.toInt + 0)) = z := Option.some.inj (show some (-1 * x4.toInt + (56 * x8.toInt + 0)) = some z from e6)
    exact e7
  have l4 : 0 ≤ (1 * x1.toInt + (-1 * x3.toInt + 0)) + 0 := by
    obtain ⟨z, e6, e7⟩ := m3 ([(1, 1), (3, -1)], 0) (List.mem_of_getElem? (i := 4) rfl)
    obtain rfl : (1 * x1.toInt + (-1 * x3.toInt + 0)) = z := Option.some.inj (show some (1 * x1.toInt + (-1 * x3.toInt + 0)) = some z from e6)
    exact e7
  have f0 : fB K n p 1 [fR x7] σ := by
    obtain ⟨w, e6, e7⟩ := m4 (17, [7]) (List.mem_of_getElem? (i := 0) rfl)
    obtain rfl : [fR x7] = w := Option.some.inj (show some [fR x7] = some w from e6)
    exact (fF_b (r := 17) (by decide) rfl).mp e7
  have f1 : fB K n p 26 [fR x0, fI x3, fI x1, fI x4] σ := by
    obtain ⟨w, e6, e7⟩ := m4 (420, [0, 3, 1, 4]) (List.mem_of_getElem? (i := 1) rfl)
    obtain rfl : [fR x0, fI x3, fI x1, fI x4] = w := Option.some.inj (show some [fR x0, fI x3, fI x1, fI x4] = some w from e6)
    exact (fF_b (r := 420) (by decide) rfl).mp e7
  have f2 : fB K n p 36 [fI x4] σ := by
    obtain ⟨w, e6, e7⟩ := m4 (577, [4]) (List.mem_of_getElem? (i := 2) rfl)
    obtain rfl : [fI x4] = w := Option.some.inj (show some [fI x4] = some w from e6)
    exact (fF_b (r := 577) (by decide) rfl).mp e7
  have f3 : fB K n p 40 [fI x4, fI x5] σ := by
    obtain ⟨w, e6, e7⟩ := m4 (642, [4, 5]) (List.mem_of_getElem? (i := 3) rfl)
    obtain rfl : [fI x4, fI x5] = w := Option.some.inj (show some [fI x4, fI x5] = some w from e6)
    exact (fF_b (r := 642) (by decide) rfl).mp e7
  have f4 : fB K n p 41 [fI x4, fI x6] σ := by
    obtain ⟨w, e6, e7⟩ := m4 (658, [4, 6]) (List.mem_of_getElem? (i := 4) rfl)
    obtain rfl : [fI x4, fI x6] = w := Option.some.inj (show some [fI x4, fI x6] = some w from e6)
    exact (fF_b (r := 658) (by decide) rfl).mp e7
  have f5 : fB K n p 44 [fI x4] σ := by
    obtain ⟨w, e6, e7⟩ := m4 (705, [4]) (List.mem_of_getElem? (i := 5) rfl)
    obtain rfl : [fI x4] = w := Option.some.inj (show some [fI x4] = some w from e6)
    exact (fF_b (r := 705) (by decide) rfl).mp e7
  clear m1 m2 m3 m4
  have q0 : fB K n p 27 [fR x0, fI x3, fI x1, fI x4] (jup σ x0 (jsto (σ x0) x1.toNatClampNeg x2)) := by
    obtain ⟨a, e, h9, hg⟩ := f0
    cases e
    have hF := fAt_of h9 s0
    have hs := hF.2.1 _ t0
    obtain ⟨a, lo, hi, s, e, h0⟩ := f1
    cases e
    obtain ⟨s, e, h1⟩ := f2
    cases e
    obtain ⟨s, v, e, h2⟩ := f3
    cases e
    obtain ⟨s, v, e, h3⟩ := f4
    cases e
    obtain ⟨s, e, h4⟩ := f5
    cases e
    refine ⟨x0, x3, x1, x4, rfl, ?_⟩
    refine fLl_st h0 (fun _ => ?_) (fun k hk h9 => ?_)
    · have hm := fMk (m := x2) (f := x4.toInt) (t := x4.toInt + 2) (b := 0) (by omega) (by omega) (by omega) (by omega)
      have hf : fMf x2 = x4.toNatClampNeg := by rw [fNc]; omega
      have hc : (fMf x2 : Int) = 4 + 56 * ((fq p).2 2).toInt := by rw [← hs]; omega
      refine ⟨⟨6, by omega, by rw [hf]; exact h1, by omega, by omega, by omega, by omega, by omega, fun _ _ => ⟨hc, ?_, ?_, ?_⟩, by omega, by omega⟩, hf⟩
      · rw [show fMf x2 + 1 = (x4.toInt + 1).toNat by omega, h2]; omega
      · rw [show fMf x2 + 2 = (x4.toInt + 2).toNat by omega, h3]; omega
      · rw [show fMf x2 + 3 = (x4.toInt + 3).toNat by omega]; exact h4
    · rw [fNc] at hk
      omega
  refine ⟨p, fun _ => rfl, ⟨fun q h => (by cases h), fun q h => (by cases h), ?_, ?_⟩, [], List.mem_cons_self, fun f h => (by cases h)⟩
  · exact fun f h => by cases h
  · exact (aAllc ⟨_, rfl, fF_p (r := 436) (by decide) (by decide) rfl q0⟩ (fun f h => by cases h))
theorem rw_ruGClPR {K : Nat → Nat} {n : Nat} : aGho (fF K n) fa_T K n (fJX K n) ag_ruGClPR := by
  refine aGho_of ⟨rfl, rfl⟩ ?_
  intro p σ ρ hH hX hA hM
  have hG := aAG_of hA.1 (fun i e v he hv => (hA.2 i e v he hv).1)
  clear hA
  obtain ⟨v0, v1, v2, v3, v4, v5, v6, v7, v8, rfl, g0, g1, g2, g3, g4, g5, g6, g7, g8⟩ := fA_9 hG
  clear hG
  obtain ⟨x0, rfl, b0, d0⟩ := fG_ref (by decide) g0
  obtain ⟨x1, rfl, b1, d1⟩ := aG_int g1
  dsimp only at b1 d1
  obtain ⟨x2, rfl, b2, d2⟩ := aG_int g2
  dsimp only at b2 d2
  obtain ⟨x3, rfl, b3, d3⟩ := aG_int g3
  dsimp only at b3 d3
  obtain ⟨x4, rfl, b4, d4⟩ := aG_int g4
  dsimp only at b4 d4
  obtain ⟨x5, rfl, b5, d5⟩ := aG_int g5
  dsimp only at b5 d5
  obtain ⟨x6, rfl, b6, d6⟩ := aG_int g6
  dsimp only at b6 d6
  obtain ⟨x7, rfl, b7, d7⟩ := fG_ref (by decide) g7
  obtain ⟨x8, rfl, b8, d8⟩ := aG_int g8
  dsimp only at b8 d8
  obtain ⟨m1, m2, m3, m4⟩ := hM
  obtain ⟨a0, c0, fs0, w0, e1, s0, t0, e4⟩ := m1 (7, 2, 8) (List.mem_of_getElem? (i := 0) rfl)
  obtain rfl : x7 = a0 := Sum.inl.inj (Option.some.inj (Sum.inr.inj (Sum.inr.inj (Option.some.inj (show some (fR x7) = some _ from e1)))))
  obtain rfl : fI x8 = w0 := Option.some.inj (show some (fI x8) = some _ from e4)
  clear e1 e4
  have l0 : 0 ≤ (1 * x2.toInt + (-520 * x4.toInt + 0)) + 16 := by
    obtain ⟨z, e6, e7⟩ := m3 ([(2, 1), (4, -520)], 16) (List.mem_of_getElem? (i := 0) rfl)
    obtain rfl : (1 * x2.toInt + (-520 * x4.toInt + 0)) = z := Option.some.inj (show some (1 * x2.toInt + (-520 * x4.toInt + 0)) = some z from e6)
    exact e7
  have l1 : 0 ≤ (-1 * x2.toInt + (520 * x4.toInt + 0)) + -16 := by
    obtain ⟨z, e6, e7⟩ := m3 ([(2, -1), (4, 520)], -16) (List.mem_of_getElem? (i := 1) rfl)
    obtain rfl : (-1 * x2.toInt + (520 * x4.toInt + 0)) = z := Option.some.inj (show some (-1 * x2.toInt + (520 * x4.toInt + 0)) = some z from e6)
    exact e7
  have l2 : 0 ≤ (1 * x4.toInt + (-56 * x8.toInt + 0)) + -4 := by
    obtain ⟨z, e6, e7⟩ := m3 ([(4, 1), (8, -56)], -4) (List.mem_of_getElem? (i := 2) rfl)
    obtain rfl : (1 * x4.toInt + (-56 * x8.toInt + 0)) = z := Option.some.inj (show some (1 * x4.toInt + (-56 * x8.toInt + 0)) = some z from e6)
    exact e7
  have l3 : 0 ≤ (-1 * x4.toInt + (56 * x8.toInt + 0)) + 4 := by
    obtain ⟨z, e6, e7⟩ := m3 ([(4, -1), (8, 56)], 4) (List.mem_of_getElem? (i := 3) rfl)
    obtain rfl : (-1 * x4.toInt + (56 * x8.toInt + 0)) = z := Option.some.inj (show some (-1 * x4.toInt + (56 * x8.toInt + 0)) = some z from e6)
    exact e7
  have l4 : 0 ≤ (1 * x1.toInt + (-1 * x3.toInt + 0)) + 0 := by
    obtain ⟨z, e6, e7⟩ := m3 ([(1, 1), (3, -1)], 0) (List.mem_of_getElem? (i := 4) rfl)
    obtain rfl : (1 * x1.toInt + (-1 * x3.toInt + 0)) = z := Option.some.inj (show some (1 * x1.toInt + (-1 * x3.toInt + 0)) = some z from e6)
    exact e7
  have f0 : fB K n p 1 [fR x7] σ := by
    obtain ⟨w, e6, e7⟩ := m4 (17, [7]) (List.mem_of_getElem? (i := 0) rfl)
    obtain rfl : [fR x7] = w := Option.some.inj (show some [fR x7] = some w from e6)
    exact (fF_b (r := 17) (by decide) rfl).mp e7
  have f1 : fB K n p 26 [fR x0, fI x3, fI x1, fI x4] σ := by
    obtain ⟨w, e6, e7⟩ := m4 (420, [0, 3, 1, 4]) (List.mem_of_getElem? (i := 1) rfl)
    obtain rfl : [fR x0, fI x3, fI x1, fI x4] = w := Option.some.inj (show some [fR x0, fI x3, fI x1, fI x4] = some w from e6)
    exact (fF_b (r := 420) (by decide) rfl).mp e7
  have f2 : fB K n p 36 [fI x4] σ := by
    obtain ⟨w, e6, e7⟩ := m4 (577, [4]) (List.mem_of_getElem? (i := 2) rfl)
    obtain rfl : [fI x4] = w := Option.some.inj (show some [fI x4] = some w from e6)
    exact (fF_b (r := 577) (by decide) rfl).mp e7
  have f3 : fB K n p 42 [fI x4, fI x5] σ := by
    obtain ⟨w, e6, e7⟩ := m4 (674, [4, 5]) (List.mem_of_getElem? (i := 3) rfl)
    obtain rfl : [fI x4, fI x5] = w := Option.some.inj (show some [fI x4, fI x5] = some w from e6)
    exact (fF_b (r := 674) (by decide) rfl).mp e7
  have f4 : fB K n p 43 [fI x4, fI x6] σ := by
    obtain ⟨w, e6, e7⟩ := m4 (690, [4, 6]) (List.mem_of_getElem? (i := 4) rfl)
    obtain rfl : [fI x4, fI x6] = w := Option.some.inj (show some [fI x4, fI x6] = some w from e6)
    exact (fF_b (r := 690) (by decide) rfl).mp e7
  have f5 : fB K n p 45 [fI x4] σ := by
    obtain ⟨w, e6, e7⟩ := m4 (721, [4]) (List.mem_of_getElem? (i := 5) rfl)
    obtain rfl : [fI x4] = w := Option.some.inj (show some [fI x4] = some w from e6)
    exact (fF_b (r := 721) (by decide) rfl).mp e7
  clear m1 m2 m3 m4
  have q0 : fB K n p 27 [fR x0, fI x3, fI x1, fI x4] (jup σ x0 (jsto (σ x0) x1.toNatClampNeg x2)) := by
    obtain ⟨a, e, h9, hg⟩ := f0
    cases e
    have hF := fAt_of h9 s0
    have hs := hF.2.1 _ t0
    obtain ⟨a, lo, hi, s, e, h0⟩ := f1
    cases e
    obtain ⟨s, e, h1⟩ := f2
    cases e
    obtain ⟨s, v, e, h2⟩ := f3
    cases e
    obtain ⟨s, v, e, h3⟩ := f4
    cases e
    obtain ⟨s, e, h4⟩ := f5
    cases e
    refine ⟨x0, x3, x1, x4, rfl, ?_⟩
    refine fLl_st h0 (fun _ => ?_) (fun k hk h9 => ?_)
    · have hm := fMk (m := x2) (f := x4.toInt) (t := x4.toInt - 2) (b := 0) (by omega) (by omega) (by omega) (by omega)
      have hf : fMf x2 = x4.toNatClampNeg := by rw [fNc]; omega
      have hc : (fMf x2 : Int) = 4 + 56 * ((fq p).2 2).toInt := by rw [← hs]; omega
      refine ⟨⟨6, by omega, by rw [hf]; exact h1, by omega, by omega, by omega, by omega, by omega, by omega, fun _ _ => ⟨hc, ?_, ?_, ?_⟩, by omega⟩, hf⟩
      · rw [show fMf x2 - 1 = (x4.toInt - 1).toNat by omega, h2]; omega
      · rw [show fMf x2 - 2 = (x4.toInt - 2).toNat by omega, h3]; omega
      · rw [show fMf x2 - 4 = (x4.toInt - 4).toNat by omega]; exact h4
    · rw [fNc] at hk
      omega
  refine ⟨p, fun _ => rfl, ⟨fun q h => (by cases h), fun q h => (by cases h), ?_, ?_⟩, [], List.mem_cons_self, fun f h => (by cases h)⟩
  · exact fun f h => by cases h
  · exact (aAllc ⟨_, rfl, fF_p (r := 436) (by decide) (by decide) rfl q0⟩ (fun f h => by cases h))
theorem rw_ruGPuPR {K : Nat → Nat} {n : Nat} : aGho (fF K n) fa_T K n (fJX K n) ag_ruGPuPR := by
  refine aGho_of ⟨rfl, rfl⟩ ?_
  intro p σ ρ hH hX hA hM
  have hG := aAG_of hA.1 (fun i e v he hv => (hA.2 i e v he hv).1)
  clear hA
  obtain ⟨v0, v1, v2, v3, v4, v5, v6, v7, rfl, g0, g1, g2, g3, g4, g5, g6, g7⟩ := fA_8 hG
  clear hG
  obtain ⟨x0, rfl, b0, d0⟩ := fG_ref (by decide) g0
  obtain ⟨x1, rfl, b1, d1⟩ := aG_int g1
  dsimp only at b1 d1
  obtain ⟨x2, rfl, b2, d2⟩ := aG_int g2
  dsimp only at b2 d2
  obtain ⟨x3, rfl, b3, d3⟩ := aG_int g3
  dsimp only at b3 d3
  obtain ⟨x4, rfl, b4, d4⟩ := aG_int g4
  dsimp only at b4 d4
  obtain ⟨x5, rfl, b5, d5⟩ := aG_int g5
  dsimp only at b5 d5
  obtain ⟨x6, rfl, b6, d6⟩ := aG_int g6
  dsimp only at b6 d6
  obtain ⟨x7, rfl, b7, d7⟩ := aG_int g7
  dsimp only at b7 d7
  obtain ⟨m1, m2, m3, m4⟩ := hM
  have l0 : 0 ≤ (1 * x2.toInt + (-512 * x4.toInt + (-8 * x5.toInt + (-1 * x6.toInt + 0)))) + 0 := by
    obtain ⟨z, e6, e7⟩ := m3 ([(2, 1), (4, -512), (5, -8), (6, -1)], 0) (List.mem_of_getElem? (i := 0) rfl)
    obtain rfl : (1 * x2.toInt + (-512 * x4.toInt + (-8 * x5.toInt + (-1 * x6.toInt + 0)))) = z := Option.some.inj (show some (1 * x2.toInt + (-512 * x4.toInt + (-8 * x5.toInt + (-1 * x6.toInt + 0)))) = some z from e6)
    exact e7
  have l1 : 0 ≤ (-1 * x2.toInt + (512 * x4.toInt + (8 * x5.toInt + (1 * x6.toInt + 0)))) + 0 := by
    obtain ⟨z, e6, e7⟩ := m3 ([(2, -1), (4, 512), (5, 8), (6, 1)], 0) (List.mem_of_getElem? (i := 1) rfl)
    obtain rfl : (-1 * x2.toInt + (512 * x4.toInt + (8 * x5.toInt + (1 * x6.toInt + 0)))) = z := Option.some.inj (show some (-1 * x2.toInt + (512 * x4.toInt + (8 * x5.toInt + (1 * x6.toInt + 0)))) = some z from e6)
    exact e7
  have l2 : 0 ≤ (1 * x6.toInt + (-2 * x7.toInt + 0)) + 0 := by
    obtain ⟨z, e6, e7⟩ := m3 ([(6, 1), (7, -2)], 0) (List.mem_of_getElem? (i := 2) rfl)
    obtain rfl : (1 * x6.toInt + (-2 * x7.toInt + 0)) = z := Option.some.inj (show some (1 * x6.toInt + (-2 * x7.toInt + 0)) = some z from e6)
    exact e7
  have l3 : 0 ≤ (-1 * x6.toInt + (5 * x7.toInt + 0)) + 0 := by
    obtain ⟨z, e6, e7⟩ := m3 ([(6, -1), (7, 5)], 0) (List.mem_of_getElem? (i := 3) rfl)
    obtain rfl : (-1 * x6.toInt + (5 * x7.toInt + 0)) = z := Option.some.inj (show some (-1 * x6.toInt + (5 * x7.toInt + 0)) = some z from e6)
    exact e7
  have l4 : 0 ≤ (1 * x1.toInt + (-1 * x3.toInt + 0)) + 0 := by
    obtain ⟨z, e6, e7⟩ := m3 ([(1, 1), (3, -1)], 0) (List.mem_of_getElem? (i := 4) rfl)
    obtain rfl : (1 * x1.toInt + (-1 * x3.toInt + 0)) = z := Option.some.inj (show some (1 * x1.toInt + (-1 * x3.toInt + 0)) = some z from e6)
    exact e7
  have l5 : 0 ≤ (1 * x5.toInt + (-1 * x4.toInt + 0)) + -7 := by
    obtain ⟨z, e6, e7⟩ := m3 ([(5, 1), (4, -1)], -7) (List.mem_of_getElem? (i := 5) rfl)
    obtain rfl : (1 * x5.toInt + (-1 * x4.toInt + 0)) = z := Option.some.inj (show some (1 * x5.toInt + (-1 * x4.toInt + 0)) = some z from e6)
    exact e7
  have l6 : 0 ≤ (-1 * x5.toInt + (1 * x4.toInt + 0)) + 9 := by
    obtain ⟨z, e6, e7⟩ := m3 ([(5, -1), (4, 1)], 9) (List.mem_of_getElem? (i := 6) rfl)
    obtain rfl : (-1 * x5.toInt + (1 * x4.toInt + 0)) = z := Option.some.inj (show some (-1 * x5.toInt + (1 * x4.toInt + 0)) = some z from e6)
    exact e7
  have l7 : 0 ≤ (1 * x5.toInt + (8 * x7.toInt + 0)) + -8 := by
    obtain ⟨z, e6, e7⟩ := m3 ([(5, 1), (7, 8)], -8) (List.mem_of_getElem? (i := 7) rfl)
    obtain rfl : (1 * x5.toInt + (8 * x7.toInt + 0)) = z := Option.some.inj (show some (1 * x5.toInt + (8 * x7.toInt + 0)) = some z from e6)
    exact e7
  have l8 : 0 ≤ (-1 * x5.toInt + (8 * x7.toInt + 0)) + 55 := by
    obtain ⟨z, e6, e7⟩ := m3 ([(5, -1), (7, 8)], 55) (List.mem_of_getElem? (i := 8) rfl)
    obtain rfl : (-1 * x5.toInt + (8 * x7.toInt + 0)) = z := Option.some.inj (show some (-1 * x5.toInt + (8 * x7.toInt + 0)) = some z from e6)
    exact e7
  have f0 : fB K n p 26 [fR x0, fI x3, fI x1, fI x4] σ := by
    obtain ⟨w, e6, e7⟩ := m4 (420, [0, 3, 1, 4]) (List.mem_of_getElem? (i := 0) rfl)
    obtain rfl : [fR x0, fI x3, fI x1, fI x4] = w := Option.some.inj (show some [fR x0, fI x3, fI x1, fI x4] = some w from e6)
    exact (fF_b (r := 420) (by decide) rfl).mp e7
  have f1 : fB K n p 34 [fI x4] σ := by
    obtain ⟨w, e6, e7⟩ := m4 (545, [4]) (List.mem_of_getElem? (i := 1) rfl)
    obtain rfl : [fI x4] = w := Option.some.inj (show some [fI x4] = some w from e6)
    exact (fF_b (r := 545) (by decide) rfl).mp e7
  clear m1 m2 m3 m4
  have q0 : fB K n p 27 [fR x0, fI x3, fI x1, fI x4] (jup σ x0 (jsto (σ x0) x1.toNatClampNeg x2)) := by
    obtain ⟨a, lo, hi, s, e, h0⟩ := f0
    cases e
    obtain ⟨s, e, h1⟩ := f1
    cases e
    refine ⟨x0, x3, x1, x4, rfl, ?_⟩
    refine fLl_st h0 (fun _ => ?_) (fun k hk h9 => ?_)
    · have hm := fMk (m := x2) (f := x4.toInt) (t := x5.toInt) (b := x6.toInt) (by omega) (by omega) (by omega) (by omega)
      have hf : fMf x2 = x4.toNatClampNeg := by rw [fNc]; omega
      refine ⟨⟨1, by omega, by rw [hf]; exact h1, by omega, by omega, by omega, by omega, by omega, by omega, by omega, by omega⟩, hf⟩
    · rw [fNc] at hk
      omega
  refine ⟨p, fun _ => rfl, ⟨fun q h => (by cases h), fun q h => (by cases h), ?_, ?_⟩, [], List.mem_cons_self, fun f h => (by cases h)⟩
  · exact fun f h => by cases h
  · exact (aAllc ⟨_, rfl, fF_p (r := 436) (by decide) (by decide) rfl q0⟩ (fun f h => by cases h))
theorem rw_ruGPdPR {K : Nat → Nat} {n : Nat} : aGho (fF K n) fa_T K n (fJX K n) ag_ruGPdPR := by
  refine aGho_of ⟨rfl, rfl⟩ ?_
  intro p σ ρ hH hX hA hM
  have hG := aAG_of hA.1 (fun i e v he hv => (hA.2 i e v he hv).1)
  clear hA
  obtain ⟨v0, v1, v2, v3, v4, v5, v6, v7, rfl, g0, g1, g2, g3, g4, g5, g6, g7⟩ := fA_8 hG
  clear hG
  obtain ⟨x0, rfl, b0, d0⟩ := fG_ref (by decide) g0
  obtain ⟨x1, rfl, b1, d1⟩ := aG_int g1
  dsimp only at b1 d1
  obtain ⟨x2, rfl, b2, d2⟩ := aG_int g2
  dsimp only at b2 d2
  obtain ⟨x3, rfl, b3, d3⟩ := aG_int g3
  dsimp only at b3 d3
  obtain ⟨x4, rfl, b4, d4⟩ := aG_int g4
  dsimp only at b4 d4
  obtain ⟨x5, rfl, b5, d5⟩ := aG_int g5
  dsimp only at b5 d5
  obtain ⟨x6, rfl, b6, d6⟩ := aG_int g6
  dsimp only at b6 d6
  obtain ⟨x7, rfl, b7, d7⟩ := aG_int g7
  dsimp only at b7 d7
  obtain ⟨m1, m2, m3, m4⟩ := hM
  have l0 : 0 ≤ (1 * x2.toInt + (-512 * x4.toInt + (-8 * x5.toInt + (-1 * x6.toInt + 0)))) + 0 := by
    obtain ⟨z, e6, e7⟩ := m3 ([(2, 1), (4, -512), (5, -8), (6, -1)], 0) (List.mem_of_getElem? (i := 0) rfl)
    obtain rfl : (1 * x2.toInt + (-512 * x4.toInt + (-8 * x5.toInt + (-1 * x6.toInt + 0)))) = z := Option.some.inj (show some (1 * x2.toInt + (-512 * x4.toInt + (-8 * x5.toInt + (-1 * x6.toInt + 0)))) = some z from e6)
    exact e7
  have l1 : 0 ≤ (-1 * x2.toInt + (512 * x4.toInt + (8 * x5.toInt + (1 * x6.toInt + 0)))) + 0 := by
    obtain ⟨z, e6, e7⟩ := m3 ([(2, -1), (4, 512), (5, 8), (6, 1)], 0) (List.mem_of_getElem? (i := 1) rfl)
    obtain rfl : (-1 * x2.toInt + (512 * x4.toInt + (8 * x5.toInt + (1 * x6.toInt + 0)))) = z := Option.some.inj (show some (-1 * x2.toInt + (512 * x4.toInt + (8 * x5.toInt + (1 * x6.toInt + 0)))) = some z from e6)
    exact e7
  have l2 : 0 ≤ (1 * x6.toInt + (-2 * x7.toInt + 0)) + 0 := by
    obtain ⟨z, e6, e7⟩ := m3 ([(6, 1), (7, -2)], 0) (List.mem_of_getElem? (i := 2) rfl)
    obtain rfl : (1 * x6.toInt + (-2 * x7.toInt + 0)) = z := Option.some.inj (show some (1 * x6.toInt + (-2 * x7.toInt + 0)) = some z from e6)
    exact e7
  have l3 : 0 ≤ (-1 * x6.toInt + (5 * x7.toInt + 0)) + 0 := by
    obtain ⟨z, e6, e7⟩ := m3 ([(6, -1), (7, 5)], 0) (List.mem_of_getElem? (i := 3) rfl)
    obtain rfl : (-1 * x6.toInt + (5 * x7.toInt + 0)) = z := Option.some.inj (show some (-1 * x6.toInt + (5 * x7.toInt + 0)) = some z from e6)
    exact e7
  have l4 : 0 ≤ (1 * x1.toInt + (-1 * x3.toInt + 0)) + 0 := by
    obtain ⟨z, e6, e7⟩ := m3 ([(1, 1), (3, -1)], 0) (List.mem_of_getElem? (i := 4) rfl)
    obtain rfl : (1 * x1.toInt + (-1 * x3.toInt + 0)) = z := Option.some.inj (show some (1 * x1.toInt + (-1 * x3.toInt + 0)) = some z from e6)
    exact e7
  have l5 : 0 ≤ (-1 * x5.toInt + (1 * x4.toInt + 0)) + -7 := by
    obtain ⟨z, e6, e7⟩ := m3 ([(5, -1), (4, 1)], -7) (List.mem_of_getElem? (i := 5) rfl)
    obtain rfl : (-1 * x5.toInt + (1 * x4.toInt + 0)) = z := Option.some.inj (show some (-1 * x5.toInt + (1 * x4.toInt + 0)) = some z from e6)
    exact e7
  have l6 : 0 ≤ (1 * x5.toInt + (-1 * x4.toInt + 0)) + 9 := by
    obtain ⟨z, e6, e7⟩ := m3 ([(5, 1), (4, -1)], 9) (List.mem_of_getElem? (i := 6) rfl)
    obtain rfl : (1 * x5.toInt + (-1 * x4.toInt + 0)) = z := Option.some.inj (show some (1 * x5.toInt + (-1 * x4.toInt + 0)) = some z from e6)
    exact e7
  have l7 : 0 ≤ (1 * x5.toInt + (8 * x7.toInt + 0)) + -8 := by
    obtain ⟨z, e6, e7⟩ := m3 ([(5, 1), (7, 8)], -8) (List.mem_of_getElem? (i := 7) rfl)
    obtain rfl : (1 * x5.toInt + (8 * x7.toInt + 0)) = z := Option.some.inj (show some (1 * x5.toInt + (8 * x7.toInt + 0)) = some z from e6)
    exact e7
  have l8 : 0 ≤ (-1 * x5.toInt + (8 * x7.toInt + 0)) + 55 := by
    obtain ⟨z, e6, e7⟩ := m3 ([(5, -1), (7, 8)], 55) (List.mem_of_getElem? (i := 8) rfl)
    obtain rfl : (-1 * x5.toInt + (8 * x7.toInt + 0)) = z := Option.some.inj (show some (-1 * x5.toInt + (8 * x7.toInt + 0)) = some z from e6)
    exact e7
  have f0 : fB K n p 26 [fR x0, fI x3, fI x1, fI x4] σ := by
    obtain ⟨w, e6, e7⟩ := m4 (420, [0, 3, 1, 4]) (List.mem_of_getElem? (i := 0) rfl)
    obtain rfl : [fR x0, fI x3, fI x1, fI x4] = w := Option.some.inj (show some [fR x0, fI x3, fI x1, fI x4] = some w from e6)
    exact (fF_b (r := 420) (by decide) rfl).mp e7
  have f1 : fB K n p 34 [fI x4] σ := by
    obtain ⟨w, e6, e7⟩ := m4 (545, [4]) (List.mem_of_getElem? (i := 1) rfl)
    obtain rfl : [fI x4] = w := Option.some.inj (show some [fI x4] = some w from e6)
    exact (fF_b (r := 545) (by decide) rfl).mp e7
  clear m1 m2 m3 m4
  have q0 : fB K n p 27 [fR x0, fI x3, fI x1, fI x4] (jup σ x0 (jsto (σ x0) x1.toNatClampNeg x2)) := by
    obtain ⟨a, lo, hi, s, e, h0⟩ := f0
    cases e
    obtain ⟨s, e, h1⟩ := f1
    cases e
    refine ⟨x0, x3, x1, x4, rfl, ?_⟩
    refine fLl_st h0 (fun _ => ?_) (fun k hk h9 => ?_)
    · have hm := fMk (m := x2) (f := x4.toInt) (t := x5.toInt) (b := x6.toInt) (by omega) (by omega) (by omega) (by omega)
      have hf : fMf x2 = x4.toNatClampNeg := by rw [fNc]; omega
      refine ⟨⟨1, by omega, by rw [hf]; exact h1, by omega, by omega, by omega, by omega, by omega, by omega, by omega, by omega⟩, hf⟩
    · rw [fNc] at hk
      omega
  refine ⟨p, fun _ => rfl, ⟨fun q h => (by cases h), fun q h => (by cases h), ?_, ?_⟩, [], List.mem_cons_self, fun f h => (by cases h)⟩
  · exact fun f h => by cases h
  · exact (aAllc ⟨_, rfl, fF_p (r := 436) (by decide) (by decide) rfl q0⟩ (fun f h => by cases h))
theorem rw_ruGDPR {K : Nat → Nat} {n : Nat} : aGho (fF K n) fa_T K n (fJX K n) ag_ruGDPR := by
  refine aGho_of ⟨rfl, rfl⟩ ?_
  intro p σ ρ hH hX hA hM
  have hG := aAG_of hA.1 (fun i e v he hv => (hA.2 i e v he hv).1)
  clear hA
  obtain ⟨v0, v1, v2, v3, v4, v5, v6, v7, v8, rfl, g0, g1, g2, g3, g4, g5, g6, g7, g8⟩ := fA_9 hG
  clear hG
  obtain ⟨x0, rfl, b0, d0⟩ := fG_ref (by decide) g0
  obtain ⟨x1, rfl, b1, d1⟩ := aG_int g1
  dsimp only at b1 d1
  obtain ⟨x2, rfl, b2, d2⟩ := aG_int g2
  dsimp only at b2 d2
  obtain ⟨x3, rfl, b3, d3⟩ := aG_int g3
  dsimp only at b3 d3
  obtain ⟨x4, rfl, b4, d4⟩ := aG_int g4
  dsimp only at b4 d4
  obtain ⟨x5, rfl, b5, d5⟩ := fG_ref (by decide) g5
  obtain ⟨x6, rfl, b6, d6⟩ := aG_int g6
  dsimp only at b6 d6
  obtain ⟨x7, rfl, b7, d7⟩ := aG_int g7
  dsimp only at b7 d7
  obtain ⟨x8, rfl, b8, d8⟩ := aG_int g8
  dsimp only at b8 d8
  obtain ⟨m1, m2, m3, m4⟩ := hM
  obtain ⟨a0, c0, fs0, w0, e1, s0, t0, e4⟩ := m1 (5, 2, 8) (List.mem_of_getElem? (i := 0) rfl)
  obtain rfl : x5 = a0 := Sum.inl.inj (Option.some.inj (Sum.inr.inj (Sum.inr.inj (Option.some.inj (show some (fR x5) = some _ from e1)))))
  obtain rfl : fI x8 = w0 := Option.some.inj (show some (fI x8) = some _ from e4)
  clear e1 e4
  have l0 : 0 ≤ (1 * x2.toInt + (-504 * x4.toInt + (-16 * x6.toInt + 0))) + 0 := by
    obtain ⟨z, e6, e7⟩ := m3 ([(2, 1), (4, -504), (6, -16)], 0) (List.mem_of_getElem? (i := 0) rfl)
    obtain rfl : (1 * x2.toInt + (-504 * x4.toInt + (-16 * x6.toInt + 0))) = z := Option.some.inj (show some (1 * x2.toInt + (-504 * x4.toInt + (-16 * x6.toInt + 0))) = some z from e6)
    exact e7
  have l1 : 0 ≤ (-1 * x2.toInt + (504 * x4.toInt + (16 * x6.toInt + 0))) + 0 := by
    obtain ⟨z, e6, e7⟩ := m3 ([(2, -1), (4, 504), (6, 16)], 0) (List.mem_of_getElem? (i := 1) rfl)
    obtain rfl : (-1 * x2.toInt + (504 * x4.toInt + (16 * x6.toInt + 0))) = z := Option.some.inj (show some (-1 * x2.toInt + (504 * x4.toInt + (16 * x6.toInt + 0))) = some z from e6)
    exact e7
  have l2 : 0 ≤ (1 * x1.toInt + (-1 * x3.toInt + 0)) + 0 := by
    obtain ⟨z, e6, e7⟩ := m3 ([(1, 1), (3, -1)], 0) (List.mem_of_getElem? (i := 2) rfl)
    obtain rfl : (1 * x1.toInt + (-1 * x3.toInt + 0)) = z := Option.some.inj (show some (1 * x1.toInt + (-1 * x3.toInt + 0)) = some z from e6)
    exact e7
  have l3 : 0 ≤ (1 * x6.toInt + (-1 * x4.toInt + (16 * x8.toInt + 0))) + -8 := by
    obtain ⟨z, e6, e7⟩ := m3 ([(6, 1), (4, -1), (8, 16)], -8) (List.mem_of_getElem? (i := 3) rfl)
    obtain rfl : (1 * x6.toInt + (-1 * x4.toInt + (16 * x8.toInt + 0))) = z := Option.some.inj (show some (1 * x6.toInt + (-1 * x4.toInt + (16 * x8.toInt + 0))) = some z from e6)
    exact e7
  have l4 : 0 ≤ (-1 * x6.toInt + (1 * x4.toInt + (-16 * x8.toInt + 0))) + 8 := by
    obtain ⟨z, e6, e7⟩ := m3 ([(6, -1), (4, 1), (8, -16)], 8) (List.mem_of_getElem? (i := 4) rfl)
    obtain rfl : (-1 * x6.toInt + (1 * x4.toInt + (-16 * x8.toInt + 0))) = z := Option.some.inj (show some (-1 * x6.toInt + (1 * x4.toInt + (-16 * x8.toInt + 0))) = some z from e6)
    exact e7
  have l5 : 0 ≤ (1 * x4.toInt + (-40 * x8.toInt + 0)) + -8 := by
    obtain ⟨z, e6, e7⟩ := m3 ([(4, 1), (8, -40)], -8) (List.mem_of_getElem? (i := 5) rfl)
    obtain rfl : (1 * x4.toInt + (-40 * x8.toInt + 0)) = z := Option.some.inj (show some (1 * x4.toInt + (-40 * x8.toInt + 0)) = some z from e6)
    exact e7
  have l6 : 0 ≤ (-1 * x4.toInt + (40 * x8.toInt + 0)) + 15 := by
    obtain ⟨z, e6, e7⟩ := m3 ([(4, -1), (8, 40)], 15) (List.mem_of_getElem? (i := 6) rfl)
    obtain rfl : (-1 * x4.toInt + (40 * x8.toInt + 0)) = z := Option.some.inj (show some (-1 * x4.toInt + (40 * x8.toInt + 0)) = some z from e6)
    exact e7
  have f0 : fB K n p 1 [fR x5] σ := by
    obtain ⟨w, e6, e7⟩ := m4 (17, [5]) (List.mem_of_getElem? (i := 0) rfl)
    obtain rfl : [fR x5] = w := Option.some.inj (show some [fR x5] = some w from e6)
    exact (fF_b (r := 17) (by decide) rfl).mp e7
  have f1 : fB K n p 26 [fR x0, fI x3, fI x1, fI x4] σ := by
    obtain ⟨w, e6, e7⟩ := m4 (420, [0, 3, 1, 4]) (List.mem_of_getElem? (i := 1) rfl)
    obtain rfl : [fR x0, fI x3, fI x1, fI x4] = w := Option.some.inj (show some [fR x0, fI x3, fI x1, fI x4] = some w from e6)
    exact (fF_b (r := 420) (by decide) rfl).mp e7
  have f2 : fB K n p 34 [fI x4] σ := by
    obtain ⟨w, e6, e7⟩ := m4 (545, [4]) (List.mem_of_getElem? (i := 2) rfl)
    obtain rfl : [fI x4] = w := Option.some.inj (show some [fI x4] = some w from e6)
    exact (fF_b (r := 545) (by decide) rfl).mp e7
  have f3 : fB K n p 39 [fI x6, fI x7] σ := by
    obtain ⟨w, e6, e7⟩ := m4 (626, [6, 7]) (List.mem_of_getElem? (i := 3) rfl)
    obtain rfl : [fI x6, fI x7] = w := Option.some.inj (show some [fI x6, fI x7] = some w from e6)
    exact (fF_b (r := 626) (by decide) rfl).mp e7
  clear m1 m2 m3 m4
  have q0 : fB K n p 27 [fR x0, fI x3, fI x1, fI x4] (jup σ x0 (jsto (σ x0) x1.toNatClampNeg x2)) := by
    obtain ⟨a, e, h9, hg⟩ := f0
    cases e
    have hF := fAt_of h9 s0
    have hs := hF.2.1 _ t0
    obtain ⟨a, lo, hi, s, e, h0⟩ := f1
    cases e
    obtain ⟨s, e, h1⟩ := f2
    cases e
    obtain ⟨s, v, e, h2⟩ := f3
    cases e
    refine ⟨x0, x3, x1, x4, rfl, ?_⟩
    refine fLl_st h0 (fun _ => ?_) (fun k hk h9 => ?_)
    · have hm := fMk (m := x2) (f := x4.toInt) (t := 2 * x6.toInt - x4.toInt) (b := 0) (by omega) (by omega) (by omega) (by omega)
      have hf : fMf x2 = x4.toNatClampNeg := by rw [fNc]; omega
      have hz : ((fq p).1 x6.toNatClampNeg).toInt = 0 := by rw [h2]; omega
      refine ⟨⟨1, by omega, by rw [hf]; exact h1, by omega, by omega, by omega, by omega, by omega, by omega, by omega, fun _ _ => ⟨by omega, ?_, fun hq => ?_, fun hq => ?_⟩⟩, hf⟩
      · rw [show (fMf x2 + fMt x2) / 2 = x6.toNatClampNeg by rw [fNc]; omega]
        exact hz
      · rw [← hs] at hq
        omega
      · rw [← hs] at hq
        omega
    · rw [fNc] at hk
      omega
  refine ⟨p, fun _ => rfl, ⟨fun q h => (by cases h), fun q h => (by cases h), ?_, ?_⟩, [], List.mem_cons_self, fun f h => (by cases h)⟩
  · exact fun f h => by cases h
  · exact (aAllc ⟨_, rfl, fF_p (r := 436) (by decide) (by decide) rfl q0⟩ (fun f h => by cases h))
theorem rw_ruLL0EN {K : Nat → Nat} {n : Nat} : aGho (fF K n) fa_T K n (fJX K n) ag_ruLL0EN := by
  refine aGho_of ⟨rfl, rfl⟩ ?_
  intro p σ ρ hH hX hA hM
  have hG := aAG_of hA.1 (fun i e v he hv => (hA.2 i e v he hv).1)
  clear hA
  obtain ⟨v0, v1, v2, rfl, g0, g1, g2⟩ := fA_3 hG
  clear hG
  obtain ⟨x0, rfl, b0, d0⟩ := fG_ref (by decide) g0
  obtain ⟨x1, rfl, b1, d1⟩ := aG_int g1
  dsimp only at b1 d1
  obtain ⟨x2, rfl, b2, d2⟩ := aG_int g2
  dsimp only at b2 d2
  obtain ⟨m1, m2, m3, m4⟩ := hM
  clear m1 m2 m3 m4
  have q0 : fB K n p 26 [fR x0, fI x1, fI x1, fI x2] σ := by
    obtain ⟨g, h1⟩ := fRow hH b0 d0 rfl (by decide)
    exact ⟨x0, x1, x1, x2, rfl, b0, by unfold fRw; omega, _, g, h1, fun k hk => by dsimp only at hk; omega⟩
  refine ⟨p, fun _ => rfl, ⟨fun q h => (by cases h), fun q h => (by cases h), ?_, ?_⟩, [], List.mem_cons_self, fun f h => (by cases h)⟩
  · exact fun f h => by cases h
  · exact (aAllc ⟨_, rfl, (fF_b (r := 420) (by decide) rfl).mpr q0⟩ (fun f h => by cases h))
theorem rw_ruLXnEN {K : Nat → Nat} {n : Nat} : aGho (fF K n) fa_T K n (fJX K n) ag_ruLXnEN := by
  refine aGho_of ⟨rfl, rfl⟩ ?_
  intro p σ ρ hH hX hA hM
  have hG := aAG_of hA.1 (fun i e v he hv => (hA.2 i e v he hv).1)
  clear hA
  obtain ⟨v0, v1, v2, v3, v4, rfl, g0, g1, g2, g3, g4⟩ := fA_5 hG
  clear hG
  obtain ⟨x0, rfl, b0, d0⟩ := fG_ref (by decide) g0
  obtain ⟨x1, rfl, b1, d1⟩ := aG_int g1
  dsimp only at b1 d1
  obtain ⟨x2, rfl, b2, d2⟩ := aG_int g2
  dsimp only at b2 d2
  obtain ⟨x3, rfl, b3, d3⟩ := aG_int g3
  dsimp only at b3 d3
  obtain ⟨x4, rfl, b4, d4⟩ := aG_int g4
  dsimp only at b4 d4
  obtain ⟨m1, m2, m3, m4⟩ := hM
  have l0 : 0 ≤ (1 * x4.toInt + (-1 * x2.toInt + 0)) + -1 := by
    obtain ⟨z, e6, e7⟩ := m3 ([(4, 1), (2, -1)], -1) (List.mem_of_getElem? (i := 0) rfl)
    obtain rfl : (1 * x4.toInt + (-1 * x2.toInt + 0)) = z := Option.some.inj (show some (1 * x4.toInt + (-1 * x2.toInt + 0)) = some z from e6)
    exact e7
  have l1 : 0 ≤ (-1 * x4.toInt + (1 * x2.toInt + 0)) + 1 := by
    obtain ⟨z, e6, e7⟩ := m3 ([(4, -1), (2, 1)], 1) (List.mem_of_getElem? (i := 1) rfl)
    obtain rfl : (-1 * x4.toInt + (1 * x2.toInt + 0)) = z := Option.some.inj (show some (-1 * x4.toInt + (1 * x2.toInt + 0)) = some z from e6)
    exact e7
  have f0 : fB K n p 27 [fR x0, fI x1, fI x2, fI x3] σ := by
    obtain ⟨w, e6, e7⟩ := m4 (436, [0, 1, 2, 3]) (List.mem_of_getElem? (i := 0) rfl)
    obtain rfl : [fR x0, fI x1, fI x2, fI x3] = w := Option.some.inj (show some [fR x0, fI x1, fI x2, fI x3] = some w from e6)
    exact (fF_b (r := 436) (by decide) rfl).mp e7
  clear m1 m2 m3 m4
  have q0 : fB K n p 26 [fR x0, fI x1, fI x4, fI x3] σ := by
    obtain ⟨a, lo, hi, s, e, h1, h2, m, g, h3, h4⟩ := f0
    cases e
    exact ⟨x0, x1, x4, x3, rfl, h1, h2, m, g, h3, fun k hk => h4 k (by dsimp only at hk ⊢; omega)⟩
  refine ⟨p, fun _ => rfl, ⟨fun q h => (by cases h), fun q h => (by cases h), ?_, ?_⟩, [], List.mem_cons_self, fun f h => (by cases h)⟩
  · exact fun f h => by cases h
  · exact (aAllc ⟨_, rfl, (fF_b (r := 420) (by decide) rfl).mpr q0⟩ (fun f h => by cases h))
theorem rw_ruGSEN {K : Nat → Nat} {n : Nat} : aGho (fF K n) fa_T K n (fJX K n) ag_ruGSEN := by
  refine aGho_of ⟨rfl, rfl⟩ ?_
  intro p σ ρ hH hX hA hM
  have hG := aAG_of hA.1 (fun i e v he hv => (hA.2 i e v he hv).1)
  clear hA
  obtain ⟨v0, v1, v2, v3, v4, v5, v6, v7, v8, rfl, g0, g1, g2, g3, g4, g5, g6, g7, g8⟩ := fA_9 hG
  clear hG
  obtain ⟨x0, rfl, b0, d0⟩ := fG_ref (by decide) g0
  obtain ⟨x1, rfl, b1, d1⟩ := aG_int g1
  dsimp only at b1 d1
  obtain ⟨x2, rfl, b2, d2⟩ := aG_int g2
  dsimp only at b2 d2
  obtain ⟨x3, rfl, b3, d3⟩ := aG_int g3
  dsimp only at b3 d3
  obtain ⟨x4, rfl, b4, d4⟩ := aG_int g4
  dsimp only at b4 d4
  obtain ⟨x5, rfl, b5, d5⟩ := aG_int g5
  dsimp only at b5 d5
  obtain ⟨x6, rfl, b6, d6⟩ := aG_int g6
  dsimp only at b6 d6
  obtain ⟨x7, rfl, b7, d7⟩ := aG_int g7
  dsimp only at b7 d7
  obtain ⟨x8, rfl, b8, d8⟩ := aG_int g8
  dsimp only at b8 d8
  obtain ⟨m1, m2, m3, m4⟩ := hM
  have l0 : 0 ≤ (1 * x2.toInt + (-512 * x4.toInt + (-8 * x5.toInt + 0))) + 0 := by
    obtain ⟨z, e6, e7⟩ := m3 ([(2, 1), (4, -512), (5, -8)], 0) (List.mem_of_getElem? (i := 0) rfl)
    obtain rfl : (1 * x2.toInt + (-512 * x4.toInt + (-8 * x5.toInt + 0))) = z := Option.some.inj (show some (1 * x2.toInt + (-512 * x4.toInt + (-8 * x5.toInt + 0))) = some z from e6)
    exact e7
  have l1 : 0 ≤ (-1 * x2.toInt + (512 * x4.toInt + (8 * x5.toInt + 0))) + 0 := by
    obtain ⟨z, e6, e7⟩ := m3 ([(2, -1), (4, 512), (5, 8)], 0) (List.mem_of_getElem? (i := 1) rfl)
    obtain rfl : (-1 * x2.toInt + (512 * x4.toInt + (8 * x5.toInt + 0))) = z := Option.some.inj (show some (-1 * x2.toInt + (512 * x4.toInt + (8 * x5.toInt + 0))) = some z from e6)
    exact e7
  have l2 : 0 ≤ (1 * x1.toInt + (-1 * x3.toInt + 0)) + 0 := by
    obtain ⟨z, e6, e7⟩ := m3 ([(1, 1), (3, -1)], 0) (List.mem_of_getElem? (i := 2) rfl)
    obtain rfl : (1 * x1.toInt + (-1 * x3.toInt + 0)) = z := Option.some.inj (show some (1 * x1.toInt + (-1 * x3.toInt + 0)) = some z from e6)
    exact e7
  have f0 : fB K n p 26 [fR x0, fI x3, fI x1, fI x4] σ := by
    obtain ⟨w, e6, e7⟩ := m4 (420, [0, 3, 1, 4]) (List.mem_of_getElem? (i := 0) rfl)
    obtain rfl : [fR x0, fI x3, fI x1, fI x4] = w := Option.some.inj (show some [fR x0, fI x3, fI x1, fI x4] = some w from e6)
    exact (fF_b (r := 420) (by decide) rfl).mp e7
  have f1 : fB K n p 25 [fI x4, fI x6] σ := by
    obtain ⟨w, e6, e7⟩ := m4 (402, [4, 6]) (List.mem_of_getElem? (i := 1) rfl)
    obtain rfl : [fI x4, fI x6] = w := Option.some.inj (show some [fI x4, fI x6] = some w from e6)
    exact (fF_b (r := 402) (by decide) rfl).mp e7
  have f2 : fB K n p 31 [fI x6] σ := by
    obtain ⟨w, e6, e7⟩ := m4 (497, [6]) (List.mem_of_getElem? (i := 2) rfl)
    obtain rfl : [fI x6] = w := Option.some.inj (show some [fI x6] = some w from e6)
    exact (fF_b (r := 497) (by decide) rfl).mp e7
  have f3 : fB K n p 18 [fI x4, fI x7, fI x8, fI x5] σ := by
    obtain ⟨w, e6, e7⟩ := m4 (292, [4, 7, 8, 5]) (List.mem_of_getElem? (i := 3) rfl)
    obtain rfl : [fI x4, fI x7, fI x8, fI x5] = w := Option.some.inj (show some [fI x4, fI x7, fI x8, fI x5] = some w from e6)
    exact (fF_b (r := 292) (by decide) rfl).mp e7
  clear m1 m2 m3 m4
  have q0 : fB K n p 27 [fR x0, fI x3, fI x1, fI x4] (jup σ x0 (jsto (σ x0) x1.toNatClampNeg x2)) := by
    obtain ⟨a, lo, hi, s, e, h0⟩ := f0
    cases e
    obtain ⟨s, k, e, h1⟩ := f1
    cases e
    obtain ⟨k, e, h2, h3⟩ := f2
    cases e
    obtain ⟨s, i, k, t, e, h4, h5, h6⟩ := f3
    cases e
    have h7 := fRay b4 d4 b7 d7 h4 h5
    refine ⟨x0, x3, x1, x4, rfl, ?_⟩
    refine fLl_st h0 (fun _ => ?_) (fun k hk h9 => ?_)
    · have hm := fMk (m := x2) (f := x4.toInt) (t := x5.toInt) (b := 0) (by omega) (by omega) (by omega) (by omega)
      have hf : fMf x2 = x4.toNatClampNeg := by rw [fNc]; omega
      have hk : x6.toNatClampNeg = x6.toInt.toNat := rfl
      refine ⟨⟨x6.toNatClampNeg, by omega, by rw [hf]; exact h1, by omega, by omega, by omega, by omega, by omega, by omega, by omega, by omega⟩, hf⟩
    · rw [fNc] at hk
      omega
  refine ⟨p, fun _ => rfl, ⟨fun q h => (by cases h), fun q h => (by cases h), ?_, ?_⟩, [], List.mem_cons_self, fun f h => (by cases h)⟩
  · exact fun f h => by cases h
  · exact (aAllc ⟨_, rfl, fF_p (r := 436) (by decide) (by decide) rfl q0⟩ (fun f h => by cases h))
theorem rw_ruGHEN {K : Nat → Nat} {n : Nat} : aGho (fF K n) fa_T K n (fJX K n) ag_ruGHEN := by
  refine aGho_of ⟨rfl, rfl⟩ ?_
  intro p σ ρ hH hX hA hM
  have hG := aAG_of hA.1 (fun i e v he hv => (hA.2 i e v he hv).1)
  clear hA
  obtain ⟨v0, v1, v2, v3, v4, v5, v6, rfl, g0, g1, g2, g3, g4, g5, g6⟩ := fA_7 hG
  clear hG
  obtain ⟨x0, rfl, b0, d0⟩ := fG_ref (by decide) g0
  obtain ⟨x1, rfl, b1, d1⟩ := aG_int g1
  dsimp only at b1 d1
  obtain ⟨x2, rfl, b2, d2⟩ := aG_int g2
  dsimp only at b2 d2
  obtain ⟨x3, rfl, b3, d3⟩ := aG_int g3
  dsimp only at b3 d3
  obtain ⟨x4, rfl, b4, d4⟩ := aG_int g4
  dsimp only at b4 d4
  obtain ⟨x5, rfl, b5, d5⟩ := aG_int g5
  dsimp only at b5 d5
  obtain ⟨x6, rfl, b6, d6⟩ := aG_int g6
  dsimp only at b6 d6
  obtain ⟨m1, m2, m3, m4⟩ := hM
  have l0 : 0 ≤ (1 * x2.toInt + (-512 * x4.toInt + (-8 * x5.toInt + 0))) + 0 := by
    obtain ⟨z, e6, e7⟩ := m3 ([(2, 1), (4, -512), (5, -8)], 0) (List.mem_of_getElem? (i := 0) rfl)
    obtain rfl : (1 * x2.toInt + (-512 * x4.toInt + (-8 * x5.toInt + 0))) = z := Option.some.inj (show some (1 * x2.toInt + (-512 * x4.toInt + (-8 * x5.toInt + 0))) = some z from e6)
    exact e7
  have l1 : 0 ≤ (-1 * x2.toInt + (512 * x4.toInt + (8 * x5.toInt + 0))) + 0 := by
    obtain ⟨z, e6, e7⟩ := m3 ([(2, -1), (4, 512), (5, 8)], 0) (List.mem_of_getElem? (i := 1) rfl)
    obtain rfl : (-1 * x2.toInt + (512 * x4.toInt + (8 * x5.toInt + 0))) = z := Option.some.inj (show some (-1 * x2.toInt + (512 * x4.toInt + (8 * x5.toInt + 0))) = some z from e6)
    exact e7
  have l2 : 0 ≤ (1 * x1.toInt + (-1 * x3.toInt + 0)) + 0 := by
    obtain ⟨z, e6, e7⟩ := m3 ([(1, 1), (3, -1)], 0) (List.mem_of_getElem? (i := 2) rfl)
    obtain rfl : (1 * x1.toInt + (-1 * x3.toInt + 0)) = z := Option.some.inj (show some (1 * x1.toInt + (-1 * x3.toInt + 0)) = some z from e6)
    exact e7
  have f0 : fB K n p 26 [fR x0, fI x3, fI x1, fI x4] σ := by
    obtain ⟨w, e6, e7⟩ := m4 (420, [0, 3, 1, 4]) (List.mem_of_getElem? (i := 0) rfl)
    obtain rfl : [fR x0, fI x3, fI x1, fI x4] = w := Option.some.inj (show some [fR x0, fI x3, fI x1, fI x4] = some w from e6)
    exact (fF_b (r := 420) (by decide) rfl).mp e7
  have f1 : fB K n p 35 [fI x4] σ := by
    obtain ⟨w, e6, e7⟩ := m4 (561, [4]) (List.mem_of_getElem? (i := 1) rfl)
    obtain rfl : [fI x4] = w := Option.some.inj (show some [fI x4] = some w from e6)
    exact (fF_b (r := 561) (by decide) rfl).mp e7
  have f2 : fB K n p 37 [fI x4, fI x6, fI x5] σ := by
    obtain ⟨w, e6, e7⟩ := m4 (595, [4, 6, 5]) (List.mem_of_getElem? (i := 2) rfl)
    obtain rfl : [fI x4, fI x6, fI x5] = w := Option.some.inj (show some [fI x4, fI x6, fI x5] = some w from e6)
    exact (fF_b (r := 595) (by decide) rfl).mp e7
  clear m1 m2 m3 m4
  have q0 : fB K n p 27 [fR x0, fI x3, fI x1, fI x4] (jup σ x0 (jsto (σ x0) x1.toNatClampNeg x2)) := by
    obtain ⟨a, lo, hi, s, e, h0⟩ := f0
    cases e
    obtain ⟨s, e, h1⟩ := f1
    cases e
    obtain ⟨s, i, t, e, h2, h3, h4⟩ := f2
    cases e
    refine ⟨x0, x3, x1, x4, rfl, ?_⟩
    refine fLl_st h0 (fun _ => ?_) (fun k hk h9 => ?_)
    · have hm := fMk (m := x2) (f := x4.toInt) (t := x5.toInt) (b := 0) (by omega) (by omega) (by omega) (by omega)
      have hf : fMf x2 = x4.toNatClampNeg := by rw [fNc]; omega
      refine ⟨⟨2, by omega, by rw [hf]; exact h1, by omega, by omega, by omega, by omega, by omega, by omega, by omega, by omega⟩, hf⟩
    · rw [fNc] at hk
      omega
  refine ⟨p, fun _ => rfl, ⟨fun q h => (by cases h), fun q h => (by cases h), ?_, ?_⟩, [], List.mem_cons_self, fun f h => (by cases h)⟩
  · exact fun f h => by cases h
  · exact (aAllc ⟨_, rfl, fF_p (r := 436) (by decide) (by decide) rfl q0⟩ (fun f h => by cases h))
theorem rw_ruGKEN {K : Nat → Nat} {n : Nat} : aGho (fF K n) fa_T K n (fJX K n) ag_ruGKEN := by
  refine aGho_of ⟨rfl, rfl⟩ ?_
  intro p σ ρ hH hX hA hM
  have hG := aAG_of hA.1 (fun i e v he hv => (hA.2 i e v he hv).1)
  clear hA
  obtain ⟨v0, v1, v2, v3, v4, v5, v6, rfl, g0, g1, g2, g3, g4, g5, g6⟩ := fA_7 hG
  clear hG
  obtain ⟨x0, rfl, b0, d0⟩ := fG_ref (by decide) g0
  obtain ⟨x1, rfl, b1, d1⟩ := aG_int g1
  dsimp only at b1 d1
  obtain ⟨x2, rfl, b2, d2⟩ := aG_int g2
  dsimp only at b2 d2
  obtain ⟨x3, rfl, b3, d3⟩ := aG_int g3
  dsimp only at b3 d3
  obtain ⟨x4, rfl, b4, d4⟩ := aG_int g4
  dsimp only at b4 d4
  obtain ⟨x5, rfl, b5, d5⟩ := aG_int g5
  dsimp only at b5 d5
  obtain ⟨x6, rfl, b6, d6⟩ := aG_int g6
  dsimp only at b6 d6
  obtain ⟨m1, m2, m3, m4⟩ := hM
  have l0 : 0 ≤ (1 * x2.toInt + (-512 * x4.toInt + (-8 * x5.toInt + 0))) + 0 := by
    obtain ⟨z, e6, e7⟩ := m3 ([(2, 1), (4, -512), (5, -8)], 0) (List.mem_of_getElem? (i := 0) rfl)
    obtain rfl : (1 * x2.toInt + (-512 * x4.toInt + (-8 * x5.toInt + 0))) = z := Option.some.inj (show some (1 * x2.toInt + (-512 * x4.toInt + (-8 * x5.toInt + 0))) = some z from e6)
    exact e7
  have l1 : 0 ≤ (-1 * x2.toInt + (512 * x4.toInt + (8 * x5.toInt + 0))) + 0 := by
    obtain ⟨z, e6, e7⟩ := m3 ([(2, -1), (4, 512), (5, 8)], 0) (List.mem_of_getElem? (i := 1) rfl)
    obtain rfl : (-1 * x2.toInt + (512 * x4.toInt + (8 * x5.toInt + 0))) = z := Option.some.inj (show some (-1 * x2.toInt + (512 * x4.toInt + (8 * x5.toInt + 0))) = some z from e6)
    exact e7
  have l2 : 0 ≤ (1 * x1.toInt + (-1 * x3.toInt + 0)) + 0 := by
    obtain ⟨z, e6, e7⟩ := m3 ([(1, 1), (3, -1)], 0) (List.mem_of_getElem? (i := 2) rfl)
    obtain rfl : (1 * x1.toInt + (-1 * x3.toInt + 0)) = z := Option.some.inj (show some (1 * x1.toInt + (-1 * x3.toInt + 0)) = some z from e6)
    exact e7
  have f0 : fB K n p 26 [fR x0, fI x3, fI x1, fI x4] σ := by
    obtain ⟨w, e6, e7⟩ := m4 (420, [0, 3, 1, 4]) (List.mem_of_getElem? (i := 0) rfl)
    obtain rfl : [fR x0, fI x3, fI x1, fI x4] = w := Option.some.inj (show some [fR x0, fI x3, fI x1, fI x4] = some w from e6)
    exact (fF_b (r := 420) (by decide) rfl).mp e7
  have f1 : fB K n p 36 [fI x4] σ := by
    obtain ⟨w, e6, e7⟩ := m4 (577, [4]) (List.mem_of_getElem? (i := 1) rfl)
    obtain rfl : [fI x4] = w := Option.some.inj (show some [fI x4] = some w from e6)
    exact (fF_b (r := 577) (by decide) rfl).mp e7
  have f2 : fB K n p 37 [fI x4, fI x6, fI x5] σ := by
    obtain ⟨w, e6, e7⟩ := m4 (595, [4, 6, 5]) (List.mem_of_getElem? (i := 2) rfl)
    obtain rfl : [fI x4, fI x6, fI x5] = w := Option.some.inj (show some [fI x4, fI x6, fI x5] = some w from e6)
    exact (fF_b (r := 595) (by decide) rfl).mp e7
  clear m1 m2 m3 m4
  have q0 : fB K n p 27 [fR x0, fI x3, fI x1, fI x4] (jup σ x0 (jsto (σ x0) x1.toNatClampNeg x2)) := by
    obtain ⟨a, lo, hi, s, e, h0⟩ := f0
    cases e
    obtain ⟨s, e, h1⟩ := f1
    cases e
    obtain ⟨s, i, t, e, h2, h3, h4⟩ := f2
    cases e
    refine ⟨x0, x3, x1, x4, rfl, ?_⟩
    refine fLl_st h0 (fun _ => ?_) (fun k hk h9 => ?_)
    · have hm := fMk (m := x2) (f := x4.toInt) (t := x5.toInt) (b := 0) (by omega) (by omega) (by omega) (by omega)
      have hf : fMf x2 = x4.toNatClampNeg := by rw [fNc]; omega
      refine ⟨⟨6, by omega, by rw [hf]; exact h1, by omega, by omega, by omega, by omega, by omega, by omega, by omega, by omega⟩, hf⟩
    · rw [fNc] at hk
      omega
  refine ⟨p, fun _ => rfl, ⟨fun q h => (by cases h), fun q h => (by cases h), ?_, ?_⟩, [], List.mem_cons_self, fun f h => (by cases h)⟩
  · exact fun f h => by cases h
  · exact (aAllc ⟨_, rfl, fF_p (r := 436) (by decide) (by decide) rfl q0⟩ (fun f h => by cases h))
theorem rw_ruGCsEN {K : Nat → Nat} {n : Nat} : aGho (fF K n) fa_T K n (fJX K n) ag_ruGCsEN := by
  refine aGho_of ⟨rfl, rfl⟩ ?_
  intro p σ ρ hH hX hA hM
  have hG := aAG_of hA.1 (fun i e v he hv => (hA.2 i e v he hv).1)
  clear hA
  obtain ⟨v0, v1, v2, v3, v4, v5, v6, v7, v8, rfl, g0, g1, g2, g3, g4, g5, g6, g7, g8⟩ := fA_9 hG
  clear hG
  obtain ⟨x0, rfl, b0, d0⟩ := fG_ref (by decide) g0
  obtain ⟨x1, rfl, b1, d1⟩ := aG_int g1
  dsimp only at b1 d1
  obtain ⟨x2, rfl, b2, d2⟩ := aG_int g2
  dsimp only at b2 d2
  obtain ⟨x3, rfl, b3, d3⟩ := aG_int g3
  dsimp only at b3 d3
  obtain ⟨x4, rfl, b4, d4⟩ := aG_int g4
  dsimp only at b4 d4
  obtain ⟨x5, rfl, b5, d5⟩ := aG_int g5
  dsimp only at b5 d5
  obtain ⟨x6, rfl, b6, d6⟩ := aG_int g6
  dsimp only at b6 d6
  obtain ⟨x7, rfl, b7, d7⟩ := fG_ref (by decide) g7
  obtain ⟨x8, rfl, b8, d8⟩ := aG_int g8
  dsimp only at b8 d8
  obtain ⟨m1, m2, m3, m4⟩ := hM
  obtain ⟨a0, c0, fs0, w0, e1, s0, t0, e4⟩ := m1 (7, 2, 8) (List.mem_of_getElem? (i := 0) rfl)
  obtain rfl : x7 = a0 := Sum.inl.inj (Option.some.inj (Sum.inr.inj (Sum.inr.inj (Option.some.inj (show some (fR x7) = some _ from e1)))))
  obtain rfl : fI x8 = w0 := Option.some.inj (show some (fI x8) = some _ from e4)
  clear e1 e4
  have l0 : 0 ≤ (1 * x2.toInt + (-520 * x4.toInt + 0)) + -16 := by
    obtain ⟨z, e6, e7⟩ := m3 ([(2, 1), (4, -520)], -16) (List.mem_of_getElem? (i := 0) rfl)
    obtain rfl : (1 * x2.toInt + (-520 * x4.toInt + 0)) = z := Option.some.inj (show some (1 * x2.toInt + (-520 * x4.toInt + 0)) = some z from e6)
    exact e7
  have l1 : 0 ≤ (-1 * x2.toInt + (520 * x4.toInt + 0)) + 16 := by
    obtain ⟨z, e6, e7⟩ := m3 ([(2, -1), (4, 520)], 16) (List.mem_of_getElem? (i := 1) rfl)
    obtain rfl : (-1 * x2.toInt + (520 * x4.toInt + 0)) = z := Option.some.inj (show some (-1 * x2.toInt + (520 * x4.toInt + 0)) = some z from e6)
    exact e7
  have l2 : 0 ≤ (1 * x4.toInt + (-56 * x8.toInt + 0)) + -4 := by
    obtain ⟨z, e6, e7⟩ := m3 ([(4, 1), (8, -56)], -4) (List.mem_of_getElem? (i := 2) rfl)
    obtain rfl : (1 * x4.toInt + (-56 * x8.toInt + 0)) = z := Option.some.inj (show some (1 * x4.toInt + (-56 * x8.toInt + 0)) = some z from e6)
    exact e7
  have l3 : 0 ≤ (-1 * x4.toInt + (56 * x8.toInt + 0)) + 4 := by
    obtain ⟨z, e6, e7⟩ := m3 ([(4, -1), (8, 56)], 4) (List.mem_of_getElem? (i := 3) rfl)
    obtain rfl : (-1 * x4.toInt + (56 * x8.toInt + 0)) = z := Option.some.inj (show some (-1 * x4.toInt + (56 * x8.toInt + 0)) = some z from e6)
    exact e7
  have l4 : 0 ≤ (1 * x1.toInt + (-1 * x3.toInt + 0)) + 0 := by
    obtain ⟨z, e6, e7⟩ := m3 ([(1, 1), (3, -1)], 0) (List.mem_of_getElem? (i := 4) rfl)
    obtain rfl : (1 * x1.toInt + (-1 * x3.toInt + 0)) = z := Option.some.inj (show some (1 * x1.toInt + (-1 * x3.toInt + 0)) = some z from e6)
    exact e7
  have f0 : fB K n p 1 [fR x7] σ := by
    obtain ⟨w, e6, e7⟩ := m4 (17, [7]) (List.mem_of_getElem? (i := 0) rfl)
    obtain rfl : [fR x7] = w := Option.some.inj (show some [fR x7] = some w from e6)
    exact (fF_b (r := 17) (by decide) rfl).mp e7
  have f1 : fB K n p 26 [fR x0, fI x3, fI x1, fI x4] σ := by
    obtain ⟨w, e6, e7⟩ := m4 (420, [0, 3, 1, 4]) (List.mem_of_getElem? (i := 1) rfl)
    obtain rfl : [fR x0, fI x3, fI x1, fI x4] = w := Option.some.inj (show some [fR x0, fI x3, fI x1, fI x4] = some w from e6)
    exact (fF_b (r := 420) (by decide) rfl).mp e7
  have f2 : fB K n p 36 [fI x4] σ := by
    obtain ⟨w, e6, e7⟩ := m4 (577, [4]) (List.mem_of_getElem? (i := 2) rfl)
    obtain rfl : [fI x4] = w := Option.some.inj (show some [fI x4] = some w from e6)
    exact (fF_b (r := 577) (by decide) rfl).mp e7
  have f3 : fB K n p 40 [fI x4, fI x5] σ := by
    obtain ⟨w, e6, e7⟩ := m4 (642, [4, 5]) (List.mem_of_getElem? (i := 3) rfl)
    obtain rfl : [fI x4, fI x5] = w := Option.some.inj (show some [fI x4, fI x5] = some w from e6)
    exact (fF_b (r := 642) (by decide) rfl).mp e7
  have f4 : fB K n p 41 [fI x4, fI x6] σ := by
    obtain ⟨w, e6, e7⟩ := m4 (658, [4, 6]) (List.mem_of_getElem? (i := 4) rfl)
    obtain rfl : [fI x4, fI x6] = w := Option.some.inj (show some [fI x4, fI x6] = some w from e6)
    exact (fF_b (r := 658) (by decide) rfl).mp e7
  have f5 : fB K n p 44 [fI x4] σ := by
    obtain ⟨w, e6, e7⟩ := m4 (705, [4]) (List.mem_of_getElem? (i := 5) rfl)
    obtain rfl : [fI x4] = w := Option.some.inj (show some [fI x4] = some w from e6)
    exact (fF_b (r := 705) (by decide) rfl).mp e7
  clear m1 m2 m3 m4
  have q0 : fB K n p 27 [fR x0, fI x3, fI x1, fI x4] (jup σ x0 (jsto (σ x0) x1.toNatClampNeg x2)) := by
    obtain ⟨a, e, h9, hg⟩ := f0
    cases e
    have hF := fAt_of h9 s0
    have hs := hF.2.1 _ t0
    obtain ⟨a, lo, hi, s, e, h0⟩ := f1
    cases e
    obtain ⟨s, e, h1⟩ := f2
    cases e
    obtain ⟨s, v, e, h2⟩ := f3
    cases e
    obtain ⟨s, v, e, h3⟩ := f4
    cases e
    obtain ⟨s, e, h4⟩ := f5
    cases e
    refine ⟨x0, x3, x1, x4, rfl, ?_⟩
    refine fLl_st h0 (fun _ => ?_) (fun k hk h9 => ?_)
    · have hm := fMk (m := x2) (f := x4.toInt) (t := x4.toInt + 2) (b := 0) (by omega) (by omega) (by omega) (by omega)
      have hf : fMf x2 = x4.toNatClampNeg := by rw [fNc]; omega
      have hc : (fMf x2 : Int) = 4 + 56 * ((fq p).2 2).toInt := by rw [← hs]; omega
      refine ⟨⟨6, by omega, by rw [hf]; exact h1, by omega, by omega, by omega, by omega, by omega, fun _ _ => ⟨hc, ?_, ?_, ?_⟩, by omega, by omega⟩, hf⟩
      · rw [show fMf x2 + 1 = (x4.toInt + 1).toNat by omega, h2]; omega
      · rw [show fMf x2 + 2 = (x4.toInt + 2).toNat by omega, h3]; omega
      · rw [show fMf x2 + 3 = (x4.toInt + 3).toNat by omega]; exact h4
    · rw [fNc] at hk
      omega
  refine ⟨p, fun _ => rfl, ⟨fun q h => (by cases h), fun q h => (by cases h), ?_, ?_⟩, [], List.mem_cons_self, fun f h => (by cases h)⟩
  · exact fun f h => by cases h
  · exact (aAllc ⟨_, rfl, fF_p (r := 436) (by decide) (by decide) rfl q0⟩ (fun f h => by cases h))
theorem rw_ruGClEN {K : Nat → Nat} {n : Nat} : aGho (fF K n) fa_T K n (fJX K n) ag_ruGClEN := by
  refine aGho_of ⟨rfl, rfl⟩ ?_
  intro p σ ρ hH hX hA hM
  have hG := aAG_of hA.1 (fun i e v he hv => (hA.2 i e v he hv).1)
  clear hA
  obtain ⟨v0, v1, v2, v3, v4, v5, v6, v7, v8, rfl, g0, g1, g2, g3, g4, g5, g6, g7, g8⟩ := fA_9 hG
  clear hG
  obtain ⟨x0, rfl, b0, d0⟩ := fG_ref (by decide) g0
  obtain ⟨x1, rfl, b1, d1⟩ := aG_int g1
  dsimp only at b1 d1
  obtain ⟨x2, rfl, b2, d2⟩ := aG_int g2
  dsimp only at b2 d2
  obtain ⟨x3, rfl, b3, d3⟩ := aG_int g3
  dsimp only at b3 d3
  obtain ⟨x4, rfl, b4, d4⟩ := aG_int g4
  dsimp only at b4 d4
  obtain ⟨x5, rfl, b5, d5⟩ := aG_int g5
  dsimp only at b5 d5
  obtain ⟨x6, rfl, b6, d6⟩ := aG_int g6
  dsimp only at b6 d6
  obtain ⟨x7, rfl, b7, d7⟩ := fG_ref (by decide) g7
  obtain ⟨x8, rfl, b8, d8⟩ := aG_int g8
  dsimp only at b8 d8
  obtain ⟨m1, m2, m3, m4⟩ := hM
  obtain ⟨a0, c0, fs0, w0, e1, s0, t0, e4⟩ := m1 (7, 2, 8) (List.mem_of_getElem? (i := 0) rfl)
  obtain rfl : x7 = a0 := Sum.inl.inj (Option.some.inj (Sum.inr.inj (Sum.inr.inj (Option.some.inj (show some (fR x7) = some _ from e1)))))
  obtain rfl : fI x8 = w0 := Option.some.inj (show some (fI x8) = some _ from e4)
  clear e1 e4
  have l0 : 0 ≤ (1 * x2.toInt + (-520 * x4.toInt + 0)) + 16 := by
    obtain ⟨z, e6, e7⟩ := m3 ([(2, 1), (4, -520)], 16) (List.mem_of_getElem? (i := 0) rfl)
    obtain rfl : (1 * x2.toInt + (-520 * x4.toInt + 0)) = z := Option.some.inj (show some (1 * x2.toInt + (-520 * x4.toInt + 0)) = some z from e6)
    exact e7
  have l1 : 0 ≤ (-1 * x2.toInt + (520 * x4.toInt + 0)) + -16 := by
    obtain ⟨z, e6, e7⟩ := m3 ([(2, -1), (4, 520)], -16) (List.mem_of_getElem? (i := 1) rfl)
    obtain rfl : (-1 * x2.toInt + (520 * x4.toInt + 0)) = z := Option.some.inj (show some (-1 * x2.toInt + (520 * x4.toInt + 0)) = some z from e6)
    exact e7
  have l2 : 0 ≤ (1 * x4.toInt + (-56 * x8.toInt + 0)) + -4 := by
    obtain ⟨z, e6, e7⟩ := m3 ([(4, 1), (8, -56)], -4) (List.mem_of_getElem? (i := 2) rfl)
    obtain rfl : (1 * x4.toInt + (-56 * x8.toInt + 0)) = z := Option.some.inj (show some (1 * x4.toInt + (-56 * x8.toInt + 0)) = some z from e6)
    exact e7
  have l3 : 0 ≤ (-1 * x4.toInt + (56 * x8.toInt + 0)) + 4 := by
    obtain ⟨z, e6, e7⟩ := m3 ([(4, -1), (8, 56)], 4) (List.mem_of_getElem? (i := 3) rfl)
    obtain rfl : (-1 * x4.toInt + (56 * x8.toInt + 0)) = z := Option.some.inj (show some (-1 * x4.toInt + (56 * x8.toInt + 0)) = some z from e6)
    exact e7
  have l4 : 0 ≤ (1 * x1.toInt + (-1 * x3.toInt + 0)) + 0 := by
    obtain ⟨z, e6, e7⟩ := m3 ([(1, 1), (3, -1)], 0) (List.mem_of_getElem? (i := 4) rfl)
    obtain rfl : (1 * x1.toInt + (-1 * x3.toInt + 0)) = z := Option.some.inj (show some (1 * x1.toInt + (-1 * x3.toInt + 0)) = some z from e6)
    exact e7
  have f0 : fB K n p 1 [fR x7] σ := by
    obtain ⟨w, e6, e7⟩ := m4 (17, [7]) (List.mem_of_getElem? (i := 0) rfl)
    obtain rfl : [fR x7] = w := Option.some.inj (show some [fR x7] = some w from e6)
    exact (fF_b (r := 17) (by decide) rfl).mp e7
  have f1 : fB K n p 26 [fR x0, fI x3, fI x1, fI x4] σ := by
    obtain ⟨w, e6, e7⟩ := m4 (420, [0, 3, 1, 4]) (List.mem_of_getElem? (i := 1) rfl)
    obtain rfl : [fR x0, fI x3, fI x1, fI x4] = w := Option.some.inj (show some [fR x0, fI x3, fI x1, fI x4] = some w from e6)
    exact (fF_b (r := 420) (by decide) rfl).mp e7
  have f2 : fB K n p 36 [fI x4] σ := by
    obtain ⟨w, e6, e7⟩ := m4 (577, [4]) (List.mem_of_getElem? (i := 2) rfl)
    obtain rfl : [fI x4] = w := Option.some.inj (show some [fI x4] = some w from e6)
    exact (fF_b (r := 577) (by decide) rfl).mp e7
  have f3 : fB K n p 42 [fI x4, fI x5] σ := by
    obtain ⟨w, e6, e7⟩ := m4 (674, [4, 5]) (List.mem_of_getElem? (i := 3) rfl)
    obtain rfl : [fI x4, fI x5] = w := Option.some.inj (show some [fI x4, fI x5] = some w from e6)
    exact (fF_b (r := 674) (by decide) rfl).mp e7
  have f4 : fB K n p 43 [fI x4, fI x6] σ := by
    obtain ⟨w, e6, e7⟩ := m4 (690, [4, 6]) (List.mem_of_getElem? (i := 4) rfl)
    obtain rfl : [fI x4, fI x6] = w := Option.some.inj (show some [fI x4, fI x6] = some w from e6)
    exact (fF_b (r := 690) (by decide) rfl).mp e7
  have f5 : fB K n p 45 [fI x4] σ := by
    obtain ⟨w, e6, e7⟩ := m4 (721, [4]) (List.mem_of_getElem? (i := 5) rfl)
    obtain rfl : [fI x4] = w := Option.some.inj (show some [fI x4] = some w from e6)
    exact (fF_b (r := 721) (by decide) rfl).mp e7
  clear m1 m2 m3 m4
  have q0 : fB K n p 27 [fR x0, fI x3, fI x1, fI x4] (jup σ x0 (jsto (σ x0) x1.toNatClampNeg x2)) := by
    obtain ⟨a, e, h9, hg⟩ := f0
    cases e
    have hF := fAt_of h9 s0
    have hs := hF.2.1 _ t0
    obtain ⟨a, lo, hi, s, e, h0⟩ := f1
    cases e
    obtain ⟨s, e, h1⟩ := f2
    cases e
    obtain ⟨s, v, e, h2⟩ := f3
    cases e
    obtain ⟨s, v, e, h3⟩ := f4
    cases e
    obtain ⟨s, e, h4⟩ := f5
    cases e
    refine ⟨x0, x3, x1, x4, rfl, ?_⟩
    refine fLl_st h0 (fun _ => ?_) (fun k hk h9 => ?_)
    · have hm := fMk (m := x2) (f := x4.toInt) (t := x4.toInt - 2) (b := 0) (by omega) (by omega) (by omega) (by omega)
      have hf : fMf x2 = x4.toNatClampNeg := by rw [fNc]; omega
      have hc : (fMf x2 : Int) = 4 + 56 * ((fq p).2 2).toInt := by rw [← hs]; omega
      refine ⟨⟨6, by omega, by rw [hf]; exact h1, by omega, by omega, by omega, by omega, by omega, by omega, fun _ _ => ⟨hc, ?_, ?_, ?_⟩, by omega⟩, hf⟩
      · rw [show fMf x2 - 1 = (x4.toInt - 1).toNat by omega, h2]; omega
      · rw [show fMf x2 - 2 = (x4.toInt - 2).toNat by omega, h3]; omega
      · rw [show fMf x2 - 4 = (x4.toInt - 4).toNat by omega]; exact h4
    · rw [fNc] at hk
      omega
  refine ⟨p, fun _ => rfl, ⟨fun q h => (by cases h), fun q h => (by cases h), ?_, ?_⟩, [], List.mem_cons_self, fun f h => (by cases h)⟩
  · exact fun f h => by cases h
  · exact (aAllc ⟨_, rfl, fF_p (r := 436) (by decide) (by decide) rfl q0⟩ (fun f h => by cases h))
theorem rw_ruGPuEN {K : Nat → Nat} {n : Nat} : aGho (fF K n) fa_T K n (fJX K n) ag_ruGPuEN := by
  refine aGho_of ⟨rfl, rfl⟩ ?_
  intro p σ ρ hH hX hA hM
  have hG := aAG_of hA.1 (fun i e v he hv => (hA.2 i e v he hv).1)
  clear hA
  obtain ⟨v0, v1, v2, v3, v4, v5, v6, v7, rfl, g0, g1, g2, g3, g4, g5, g6, g7⟩ := fA_8 hG
  clear hG
  obtain ⟨x0, rfl, b0, d0⟩ := fG_ref (by decide) g0
  obtain ⟨x1, rfl, b1, d1⟩ := aG_int g1
  dsimp only at b1 d1
  obtain ⟨x2, rfl, b2, d2⟩ := aG_int g2
  dsimp only at b2 d2
  obtain ⟨x3, rfl, b3, d3⟩ := aG_int g3
  dsimp only at b3 d3
  obtain ⟨x4, rfl, b4, d4⟩ := aG_int g4
  dsimp only at b4 d4
  obtain ⟨x5, rfl, b5, d5⟩ := aG_int g5
  dsimp only at b5 d5
  obtain ⟨x6, rfl, b6, d6⟩ := aG_int g6
  dsimp only at b6 d6
  obtain ⟨x7, rfl, b7, d7⟩ := aG_int g7
  dsimp only at b7 d7
  obtain ⟨m1, m2, m3, m4⟩ := hM
  have l0 : 0 ≤ (1 * x2.toInt + (-512 * x4.toInt + (-8 * x5.toInt + (-1 * x6.toInt + 0)))) + 0 := by
    obtain ⟨z, e6, e7⟩ := m3 ([(2, 1), (4, -512), (5, -8), (6, -1)], 0) (List.mem_of_getElem? (i := 0) rfl)
    obtain rfl : (1 * x2.toInt + (-512 * x4.toInt + (-8 * x5.toInt + (-1 * x6.toInt + 0)))) = z := Option.some.inj (show some (1 * x2.toInt + (-512 * x4.toInt + (-8 * x5.toInt + (-1 * x6.toInt + 0)))) = some z from e6)
    exact e7
  have l1 : 0 ≤ (-1 * x2.toInt + (512 * x4.toInt + (8 * x5.toInt + (1 * x6.toInt + 0)))) + 0 := by
    obtain ⟨z, e6, e7⟩ := m3 ([(2, -1), (4, 512), (5, 8), (6, 1)], 0) (List.mem_of_getElem? (i := 1) rfl)
    obtain rfl : (-1 * x2.toInt + (512 * x4.toInt + (8 * x5.toInt + (1 * x6.toInt + 0)))) = z := Option.some.inj (show some (-1 * x2.toInt + (512 * x4.toInt + (8 * x5.toInt + (1 * x6.toInt + 0)))) = some z from e6)
    exact e7
  have l2 : 0 ≤ (1 * x6.toInt + (-2 * x7.toInt + 0)) + 0 := by
    obtain ⟨z, e6, e7⟩ := m3 ([(6, 1), (7, -2)], 0) (List.mem_of_getElem? (i := 2) rfl)
    obtain rfl : (1 * x6.toInt + (-2 * x7.toInt + 0)) = z := Option.some.inj (show some (1 * x6.toInt + (-2 * x7.toInt + 0)) = some z from e6)
    exact e7
  have l3 : 0 ≤ (-1 * x6.toInt + (5 * x7.toInt + 0)) + 0 := by
    obtain ⟨z, e6, e7⟩ := m3 ([(6, -1), (7, 5)], 0) (List.mem_of_getElem? (i := 3) rfl)
    obtain rfl : (-1 * x6.toInt + (5 * x7.toInt + 0)) = z := Option.some.inj (show some (-1 * x6.toInt + (5 * x7.toInt + 0)) = some z from e6)
    exact e7
  have l4 : 0 ≤ (1 * x1.toInt + (-1 * x3.toInt + 0)) + 0 := by
    obtain ⟨z, e6, e7⟩ := m3 ([(1, 1), (3, -1)], 0) (List.mem_of_getElem? (i := 4) rfl)
    obtain rfl : (1 * x1.toInt + (-1 * x3.toInt + 0)) = z := Option.some.inj (show some (1 * x1.toInt + (-1 * x3.toInt + 0)) = some z from e6)
    exact e7
  have l5 : 0 ≤ (1 * x5.toInt + (-1 * x4.toInt + 0)) + -7 := by
    obtain ⟨z, e6, e7⟩ := m3 ([(5, 1), (4, -1)], -7) (List.mem_of_getElem? (i := 5) rfl)
    obtain rfl : (1 * x5.toInt + (-1 * x4.toInt + 0)) = z := Option.some.inj (show some (1 * x5.toInt + (-1 * x4.toInt + 0)) = some z from e6)
    exact e7
  have l6 : 0 ≤ (-1 * x5.toInt + (1 * x4.toInt + 0)) + 9 := by
    obtain ⟨z, e6, e7⟩ := m3 ([(5, -1), (4, 1)], 9) (List.mem_of_getElem? (i := 6) rfl)
    obtain rfl : (-1 * x5.toInt + (1 * x4.toInt + 0)) = z := Option.some.inj (show some (-1 * x5.toInt + (1 * x4.toInt + 0)) = some z from e6)
    exact e7
  have l7 : 0 ≤ (1 * x5.toInt + (8 * x7.toInt + 0)) + -8 := by
    obtain ⟨z, e6, e7⟩ := m3 ([(5, 1), (7, 8)], -8) (List.mem_of_getElem? (i := 7) rfl)
    obtain rfl : (1 * x5.toInt + (8 * x7.toInt + 0)) = z := Option.some.inj (show some (1 * x5.toInt + (8 * x7.toInt + 0)) = some z from e6)
    exact e7
  have l8 : 0 ≤ (-1 * x5.toInt + (8 * x7.toInt + 0)) + 55 := by
    obtain ⟨z, e6, e7⟩ := m3 ([(5, -1), (7, 8)], 55) (List.mem_of_getElem? (i := 8) rfl)
    obtain rfl : (-1 * x5.toInt + (8 * x7.toInt + 0)) = z := Option.some.inj (show some (-1 * x5.toInt + (8 * x7.toInt + 0)) = some z from e6)
    exact e7
  have f0 : fB K n p 26 [fR x0, fI x3, fI x1, fI x4] σ := by
    obtain ⟨w, e6, e7⟩ := m4 (420, [0, 3, 1, 4]) (List.mem_of_getElem? (i := 0) rfl)
    obtain rfl : [fR x0, fI x3, fI x1, fI x4] = w := Option.some.inj (show some [fR x0, fI x3, fI x1, fI x4] = some w from e6)
    exact (fF_b (r := 420) (by decide) rfl).mp e7
  have f1 : fB K n p 34 [fI x4] σ := by
    obtain ⟨w, e6, e7⟩ := m4 (545, [4]) (List.mem_of_getElem? (i := 1) rfl)
    obtain rfl : [fI x4] = w := Option.some.inj (show some [fI x4] = some w from e6)
    exact (fF_b (r := 545) (by decide) rfl).mp e7
  clear m1 m2 m3 m4
  have q0 : fB K n p 27 [fR x0, fI x3, fI x1, fI x4] (jup σ x0 (jsto (σ x0) x1.toNatClampNeg x2)) := by
    obtain ⟨a, lo, hi, s, e, h0⟩ := f0
    cases e
    obtain ⟨s, e, h1⟩ := f1
    cases e
    refine ⟨x0, x3, x1, x4, rfl, ?_⟩
    refine fLl_st h0 (fun _ => ?_) (fun k hk h9 => ?_)
    · have hm := fMk (m := x2) (f := x4.toInt) (t := x5.toInt) (b := x6.toInt) (by omega) (by omega) (by omega) (by omega)
      have hf : fMf x2 = x4.toNatClampNeg := by rw [fNc]; omega
      refine ⟨⟨1, by omega, by rw [hf]; exact h1, by omega, by omega, by omega, by omega, by omega, by omega, by omega, by omega⟩, hf⟩
    · rw [fNc] at hk
      omega
  refine ⟨p, fun _ => rfl, ⟨fun q h => (by cases h), fun q h => (by cases h), ?_, ?_⟩, [], List.mem_cons_self, fun f h => (by cases h)⟩
  · exact fun f h => by cases h
  · exact (aAllc ⟨_, rfl, fF_p (r := 436) (by decide) (by decide) rfl q0⟩ (fun f h => by cases h))
theorem rw_ruGPdEN {K : Nat → Nat} {n : Nat} : aGho (fF K n) fa_T K n (fJX K n) ag_ruGPdEN := by
  refine aGho_of ⟨rfl, rfl⟩ ?_
  intro p σ ρ hH hX hA hM
  have hG := aAG_of hA.1 (fun i e v he hv => (hA.2 i e v he hv).1)
  clear hA
  obtain ⟨v0, v1, v2, v3, v4, v5, v6, v7, rfl, g0, g1, g2, g3, g4, g5, g6, g7⟩ := fA_8 hG
  clear hG
  obtain ⟨x0, rfl, b0, d0⟩ := fG_ref (by decide) g0
  obtain ⟨x1, rfl, b1, d1⟩ := aG_int g1
  dsimp only at b1 d1
  obtain ⟨x2, rfl, b2, d2⟩ := aG_int g2
  dsimp only at b2 d2
  obtain ⟨x3, rfl, b3, d3⟩ := aG_int g3
  dsimp only at b3 d3
  obtain ⟨x4, rfl, b4, d4⟩ := aG_int g4
  dsimp only at b4 d4
  obtain ⟨x5, rfl, b5, d5⟩ := aG_int g5
  dsimp only at b5 d5
  obtain ⟨x6, rfl, b6, d6⟩ := aG_int g6
  dsimp only at b6 d6
  obtain ⟨x7, rfl, b7, d7⟩ := aG_int g7
  dsimp only at b7 d7
  obtain ⟨m1, m2, m3, m4⟩ := hM
  have l0 : 0 ≤ (1 * x2.toInt + (-512 * x4.toInt + (-8 * x5.toInt + (-1 * x6.toInt + 0)))) + 0 := by
    obtain ⟨z, e6, e7⟩ := m3 ([(2, 1), (4, -512), (5, -8), (6, -1)], 0) (List.mem_of_getElem? (i := 0) rfl)
    obtain rfl : (1 * x2.toInt + (-512 * x4.toInt + (-8 * x5.toInt + (-1 * x6.toInt + 0)))) = z := Option.some.inj (show some (1 * x2.toInt + (-512 * x4.toInt + (-8 * x5.toInt + (-1 * x6.toInt + 0)))) = some z from e6)
    exact e7
  have l1 : 0 ≤ (-1 * x2.toInt + (512 * x4.toInt + (8 * x5.toInt + (1 * x6.toInt + 0)))) + 0 := by
    obtain ⟨z, e6, e7⟩ := m3 ([(2, -1), (4, 512), (5, 8), (6, 1)], 0) (List.mem_of_getElem? (i := 1) rfl)
    obtain rfl : (-1 * x2.toInt + (512 * x4.toInt + (8 * x5.toInt + (1 * x6.toInt + 0)))) = z := Option.some.inj (show some (-1 * x2.toInt + (512 * x4.toInt + (8 * x5.toInt + (1 * x6.toInt + 0)))) = some z from e6)
    exact e7
  have l2 : 0 ≤ (1 * x6.toInt + (-2 * x7.toInt + 0)) + 0 := by
    obtain ⟨z, e6, e7⟩ := m3 ([(6, 1), (7, -2)], 0) (List.mem_of_getElem? (i := 2) rfl)
    obtain rfl : (1 * x6.toInt + (-2 * x7.toInt + 0)) = z := Option.some.inj (show some (1 * x6.toInt + (-2 * x7.toInt + 0)) = some z from e6)
    exact e7
  have l3 : 0 ≤ (-1 * x6.toInt + (5 * x7.toInt + 0)) + 0 := by
    obtain ⟨z, e6, e7⟩ := m3 ([(6, -1), (7, 5)], 0) (List.mem_of_getElem? (i := 3) rfl)
    obtain rfl : (-1 * x6.toInt + (5 * x7.toInt + 0)) = z := Option.some.inj (show some (-1 * x6.toInt + (5 * x7.toInt + 0)) = some z from e6)
    exact e7
  have l4 : 0 ≤ (1 * x1.toInt + (-1 * x3.toInt + 0)) + 0 := by
    obtain ⟨z, e6, e7⟩ := m3 ([(1, 1), (3, -1)], 0) (List.mem_of_getElem? (i := 4) rfl)
    obtain rfl : (1 * x1.toInt + (-1 * x3.toInt + 0)) = z := Option.some.inj (show some (1 * x1.toInt + (-1 * x3.toInt + 0)) = some z from e6)
    exact e7
  have l5 : 0 ≤ (-1 * x5.toInt + (1 * x4.toInt + 0)) + -7 := by
    obtain ⟨z, e6, e7⟩ := m3 ([(5, -1), (4, 1)], -7) (List.mem_of_getElem? (i := 5) rfl)
    obtain rfl : (-1 * x5.toInt + (1 * x4.toInt + 0)) = z := Option.some.inj (show some (-1 * x5.toInt + (1 * x4.toInt + 0)) = some z from e6)
    exact e7
  have l6 : 0 ≤ (1 * x5.toInt + (-1 * x4.toInt + 0)) + 9 := by
    obtain ⟨z, e6, e7⟩ := m3 ([(5, 1), (4, -1)], 9) (List.mem_of_getElem? (i := 6) rfl)
    obtain rfl : (1 * x5.toInt + (-1 * x4.toInt + 0)) = z := Option.some.inj (show some (1 * x5.toInt + (-1 * x4.toInt + 0)) = some z from e6)
    exact e7
  have l7 : 0 ≤ (1 * x5.toInt + (8 * x7.toInt + 0)) + -8 := by
    obtain ⟨z, e6, e7⟩ := m3 ([(5, 1), (7, 8)], -8) (List.mem_of_getElem? (i := 7) rfl)
    obtain rfl : (1 * x5.toInt + (8 * x7.toInt + 0)) = z := Option.some.inj (show some (1 * x5.toInt + (8 * x7.toInt + 0)) = some z from e6)
    exact e7
  have l8 : 0 ≤ (-1 * x5.toInt + (8 * x7.toInt + 0)) + 55 := by
    obtain ⟨z, e6, e7⟩ := m3 ([(5, -1), (7, 8)], 55) (List.mem_of_getElem? (i := 8) rfl)
    obtain rfl : (-1 * x5.toInt + (8 * x7.toInt + 0)) = z := Option.some.inj (show some (-1 * x5.toInt + (8 * x7.toInt + 0)) = some z from e6)
    exact e7
  have f0 : fB K n p 26 [fR x0, fI x3, fI x1, fI x4] σ := by
    obtain ⟨w, e6, e7⟩ := m4 (420, [0, 3, 1, 4]) (List.mem_of_getElem? (i := 0) rfl)
    obtain rfl : [fR x0, fI x3, fI x1, fI x4] = w := Option.some.inj (show some [fR x0, fI x3, fI x1, fI x4] = some w from e6)
    exact (fF_b (r := 420) (by decide) rfl).mp e7
  have f1 : fB K n p 34 [fI x4] σ := by
    obtain ⟨w, e6, e7⟩ := m4 (545, [4]) (List.mem_of_getElem? (i := 1) rfl)
    obtain rfl : [fI x4] = w := Option.some.inj (show some [fI x4] = some w from e6)
    exact (fF_b (r := 545) (by decide) rfl).mp e7
  clear m1 m2 m3 m4
  have q0 : fB K n p 27 [fR x0, fI x3, fI x1, fI x4] (jup σ x0 (jsto (σ x0) x1.toNatClampNeg x2)) := by
    obtain ⟨a, lo, hi, s, e, h0⟩ := f0
    cases e
    obtain ⟨s, e, h1⟩ := f1
    cases e
    refine ⟨x0, x3, x1, x4, rfl, ?_⟩
    refine fLl_st h0 (fun _ => ?_) (fun k hk h9 => ?_)
    · have hm := fMk (m := x2) (f := x4.toInt) (t := x5.toInt) (b := x6.toInt) (by omega) (by omega) (by omega) (by omega)
      have hf : fMf x2 = x4.toNatClampNeg := by rw [fNc]; omega
      refine ⟨⟨1, by omega, by rw [hf]; exact h1, by omega, by omega, by omega, by omega, by omega, by omega, by omega, by omega⟩, hf⟩
    · rw [fNc] at hk
      omega
  refine ⟨p, fun _ => rfl, ⟨fun q h => (by cases h), fun q h => (by cases h), ?_, ?_⟩, [], List.mem_cons_self, fun f h => (by cases h)⟩
  · exact fun f h => by cases h
  · exact (aAllc ⟨_, rfl, fF_p (r := 436) (by decide) (by decide) rfl q0⟩ (fun f h => by cases h))
theorem rw_ruGDEN {K : Nat → Nat} {n : Nat} : aGho (fF K n) fa_T K n (fJX K n) ag_ruGDEN := by
  refine aGho_of ⟨rfl, rfl⟩ ?_
  intro p σ ρ hH hX hA hM
  have hG := aAG_of hA.1 (fun i e v he hv => (hA.2 i e v he hv).1)
  clear hA
  obtain ⟨v0, v1, v2, v3, v4, v5, v6, v7, v8, rfl, g0, g1, g2, g3, g4, g5, g6, g7, g8⟩ := fA_9 hG
  clear hG
  obtain ⟨x0, rfl, b0, d0⟩ := fG_ref (by decide) g0
  obtain ⟨x1, rfl, b1, d1⟩ := aG_int g1
  dsimp only at b1 d1
  obtain ⟨x2, rfl, b2, d2⟩ := aG_int g2
  dsimp only at b2 d2
  obtain ⟨x3, rfl, b3, d3⟩ := aG_int g3
  dsimp only at b3 d3
  obtain ⟨x4, rfl, b4, d4⟩ := aG_int g4
  dsimp only at b4 d4
  obtain ⟨x5, rfl, b5, d5⟩ := fG_ref (by decide) g5
  obtain ⟨x6, rfl, b6, d6⟩ := aG_int g6
  dsimp only at b6 d6
  obtain ⟨x7, rfl, b7, d7⟩ := aG_int g7
  dsimp only at b7 d7
  obtain ⟨x8, rfl, b8, d8⟩ := aG_int g8
  dsimp only at b8 d8
  obtain ⟨m1, m2, m3, m4⟩ := hM
  obtain ⟨a0, c0, fs0, w0, e1, s0, t0, e4⟩ := m1 (5, 2, 8) (List.mem_of_getElem? (i := 0) rfl)
  obtain rfl : x5 = a0 := Sum.inl.inj (Option.some.inj (Sum.inr.inj (Sum.inr.inj (Option.some.inj (show some (fR x5) = some _ from e1)))))
  obtain rfl : fI x8 = w0 := Option.some.inj (show some (fI x8) = some _ from e4)
  clear e1 e4
  have l0 : 0 ≤ (1 * x2.toInt + (-504 * x4.toInt + (-16 * x6.toInt + 0))) + 0 := by
    obtain ⟨z, e6, e7⟩ := m3 ([(2, 1), (4, -504), (6, -16)], 0) (List.mem_of_getElem? (i := 0) rfl)
    obtain rfl : (1 * x2.toInt + (-504 * x4.toInt + (-16 * x6.toInt + 0))) = z := Option.some.inj (show some (1 * x2.toInt + (-504 * x4.toInt + (-16 * x6.toInt + 0))) = some z from e6)
    exact e7
  have l1 : 0 ≤ (-1 * x2.toInt + (504 * x4.toInt + (16 * x6.toInt + 0))) + 0 := by
    obtain ⟨z, e6, e7⟩ := m3 ([(2, -1), (4, 504), (6, 16)], 0) (List.mem_of_getElem? (i := 1) rfl)
    obtain rfl : (-1 * x2.toInt + (504 * x4.toInt + (16 * x6.toInt + 0))) = z := Option.some.inj (show some (-1 * x2.toInt + (504 * x4.toInt + (16 * x6.toInt + 0))) = some z from e6)
    exact e7
  have l2 : 0 ≤ (1 * x1.toInt + (-1 * x3.toInt + 0)) + 0 := by
    obtain ⟨z, e6, e7⟩ := m3 ([(1, 1), (3, -1)], 0) (List.mem_of_getElem? (i := 2) rfl)
    obtain rfl : (1 * x1.toInt + (-1 * x3.toInt + 0)) = z := Option.some.inj (show some (1 * x1.toInt + (-1 * x3.toInt + 0)) = some z from e6)
    exact e7
  have l3 : 0 ≤ (1 * x6.toInt + (-1 * x4.toInt + (16 * x8.toInt + 0))) + -8 := by
    obtain ⟨z, e6, e7⟩ := m3 ([(6, 1), (4, -1), (8, 16)], -8) (List.mem_of_getElem? (i := 3) rfl)
    obtain rfl : (1 * x6.toInt + (-1 * x4.toInt + (16 * x8.toInt + 0))) = z := Option.some.inj (show some (1 * x6.toInt + (-1 * x4.toInt + (16 * x8.toInt + 0))) = some z from e6)
    exact e7
  have l4 : 0 ≤ (-1 * x6.toInt + (1 * x4.toInt + (-16 * x8.toInt + 0))) + 8 := by
    obtain ⟨z, e6, e7⟩ := m3 ([(6, -1), (4, 1), (8, -16)], 8) (List.mem_of_getElem? (i := 4) rfl)
    obtain rfl : (-1 * x6.toInt + (1 * x4.toInt + (-16 * x8.toInt + 0))) = z := Option.some.inj (show some (-1 * x6.toInt + (1 * x4.toInt + (-16 * x8.toInt + 0))) = some z from e6)
    exact e7
  have l5 : 0 ≤ (1 * x4.toInt + (-40 * x8.toInt + 0)) + -8 := by
    obtain ⟨z, e6, e7⟩ := m3 ([(4, 1), (8, -40)], -8) (List.mem_of_getElem? (i := 5) rfl)
    obtain rfl : (1 * x4.toInt + (-40 * x8.toInt + 0)) = z := Option.some.inj (show some (1 * x4.toInt + (-40 * x8.toInt + 0)) = some z from e6)
    exact e7
  have l6 : 0 ≤ (-1 * x4.toInt + (40 * x8.toInt + 0)) + 15 := by
    obtain ⟨z, e6, e7⟩ := m3 ([(4, -1), (8, 40)], 15) (List.mem_of_getElem? (i := 6) rfl)
    obtain rfl : (-1 * x4.toInt + (40 * x8.toInt + 0)) = z := Option.some.inj (show some (-1 * x4.toInt + (40 * x8.toInt + 0)) = some z from e6)
    exact e7
  have f0 : fB K n p 1 [fR x5] σ := by
    obtain ⟨w, e6, e7⟩ := m4 (17, [5]) (List.mem_of_getElem? (i := 0) rfl)
    obtain rfl : [fR x5] = w := Option.some.inj (show some [fR x5] = some w from e6)
    exact (fF_b (r := 17) (by decide) rfl).mp e7
  have f1 : fB K n p 26 [fR x0, fI x3, fI x1, fI x4] σ := by
    obtain ⟨w, e6, e7⟩ := m4 (420, [0, 3, 1, 4]) (List.mem_of_getElem? (i := 1) rfl)
    obtain rfl : [fR x0, fI x3, fI x1, fI x4] = w := Option.some.inj (show some [fR x0, fI x3, fI x1, fI x4] = some w from e6)
    exact (fF_b (r := 420) (by decide) rfl).mp e7
  have f2 : fB K n p 34 [fI x4] σ := by
    obtain ⟨w, e6, e7⟩ := m4 (545, [4]) (List.mem_of_getElem? (i := 2) rfl)
    obtain rfl : [fI x4] = w := Option.some.inj (show some [fI x4] = some w from e6)
    exact (fF_b (r := 545) (by decide) rfl).mp e7
  have f3 : fB K n p 39 [fI x6, fI x7] σ := by
    obtain ⟨w, e6, e7⟩ := m4 (626, [6, 7]) (List.mem_of_getElem? (i := 3) rfl)
    obtain rfl : [fI x6, fI x7] = w := Option.some.inj (show some [fI x6, fI x7] = some w from e6)
    exact (fF_b (r := 626) (by decide) rfl).mp e7
  clear m1 m2 m3 m4
  have q0 : fB K n p 27 [fR x0, fI x3, fI x1, fI x4] (jup σ x0 (jsto (σ x0) x1.toNatClampNeg x2)) := by
    obtain ⟨a, e, h9, hg⟩ := f0
    cases e
    have hF := fAt_of h9 s0
    have hs := hF.2.1 _ t0
    obtain ⟨a, lo, hi, s, e, h0⟩ := f1
    cases e
    obtain ⟨s, e, h1⟩ := f2
    cases e
    obtain ⟨s, v, e, h2⟩ := f3
    cases e
    refine ⟨x0, x3, x1, x4, rfl, ?_⟩
    refine fLl_st h0 (fun _ => ?_) (fun k hk h9 => ?_)
    · have hm := fMk (m := x2) (f := x4.toInt) (t := 2 * x6.toInt - x4.toInt) (b := 0) (by omega) (by omega) (by omega) (by omega)
      have hf : fMf x2 = x4.toNatClampNeg := by rw [fNc]; omega
      have hz : ((fq p).1 x6.toNatClampNeg).toInt = 0 := by rw [h2]; omega
      refine ⟨⟨1, by omega, by rw [hf]; exact h1, by omega, by omega, by omega, by omega, by omega, by omega, by omega, fun _ _ => ⟨by omega, ?_, fun hq => ?_, fun hq => ?_⟩⟩, hf⟩
      · rw [show (fMf x2 + fMt x2) / 2 = x6.toNatClampNeg by rw [fNc]; omega]
        exact hz
      · rw [← hs] at hq
        omega
      · rw [← hs] at hq
        omega
    · rw [fNc] at hk
      omega
  refine ⟨p, fun _ => rfl, ⟨fun q h => (by cases h), fun q h => (by cases h), ?_, ?_⟩, [], List.mem_cons_self, fun f h => (by cases h)⟩
  · exact fun f h => by cases h
  · exact (aAllc ⟨_, rfl, fF_p (r := 436) (by decide) (by decide) rfl q0⟩ (fun f h => by cases h))
theorem rw_ruMK {K : Nat → Nat} {n : Nat} : aGho (fF K n) fa_T K n (fJX K n) ag_ruMK := by
  refine aGho_of ⟨rfl, rfl⟩ ?_
  intro p σ ρ hH hX hA hM
  have hG := aAG_of hA.1 (fun i e v he hv => (hA.2 i e v he hv).1)
  clear hA
  obtain ⟨v0, v1, v2, v3, v4, v5, rfl, g0, g1, g2, g3, g4, g5⟩ := fA_6 hG
  clear hG
  obtain ⟨x0, rfl, b0, d0⟩ := fG_ref (by decide) g0
  obtain ⟨x1, rfl, b1, d1⟩ := aG_int g1
  dsimp only at b1 d1
  obtain ⟨x2, rfl, b2, d2⟩ := aG_int g2
  dsimp only at b2 d2
  obtain ⟨x3, rfl, b3, d3⟩ := aG_int g3
  dsimp only at b3 d3
  obtain ⟨x4, rfl, b4, d4⟩ := fG_ref (by decide) g4
  obtain ⟨x5, rfl, b5, d5⟩ := aG_int g5
  dsimp only at b5 d5
  obtain ⟨m1, m2, m3, m4⟩ := hM
  obtain ⟨a0, c0, fs0, w0, e1, s0, t0, e4⟩ := m1 (0, 0, 4) (List.mem_of_getElem? (i := 0) rfl)
  obtain rfl : x0 = a0 := Sum.inl.inj (Option.some.inj (Sum.inr.inj (Sum.inr.inj (Option.some.inj (show some (fR x0) = some _ from e1)))))
  obtain rfl : fR x4 = w0 := Option.some.inj (show some (fR x4) = some _ from e4)
  clear e1 e4
  obtain ⟨a1, c1, fs1, w1, e1, s1, t1, e4⟩ := m1 (0, 2, 5) (List.mem_of_getElem? (i := 1) rfl)
  obtain rfl : x0 = a1 := Sum.inl.inj (Option.some.inj (Sum.inr.inj (Sum.inr.inj (Option.some.inj (show some (fR x0) = some _ from e1)))))
  obtain rfl : fI x5 = w1 := Option.some.inj (show some (fI x5) = some _ from e4)
  clear e1 e4
  obtain ⟨a, mc0, ty0, gc0, ic0, e1, sc0, jc0, e4, e5⟩ := m2 (4, ([(1, 1)], 0), 2) (List.mem_of_getElem? (i := 0) rfl)
  obtain rfl : x4 = a := Sum.inl.inj (Option.some.inj (Sum.inr.inj (Sum.inr.inj (Option.some.inj (show some (fR x4) = some _ from e1)))))
  obtain ⟨gc0, rfl⟩ : ∃ g, gc0 = .inl g := by
    rcases gc0 with g | g
    · exact ⟨g, rfl⟩
    · exact absurd (show some (fI x2) = some (.inr (.inl (g ic0))) from e5) (fun h => by cases h)
  have sc0 : σ x4 = .inl (ty0, mc0, .inl gc0) := sc0
  have ec0 : x2 = gc0 ic0 := Sum.inl.inj (Option.some.inj (show some (fI x2) = some _ from e5))
  have kc0 : (ic0 : Int) = (1 * x1.toInt + 0) + 0 := by
    obtain ⟨z, e6, e7⟩ := e4
    obtain rfl : (1 * x1.toInt + 0) = z := Option.some.inj (show some (1 * x1.toInt + 0) = some z from e6)
    exact e7
  clear e1 e4 e5
  have l0 : 0 ≤ (1 * x3.toInt + (-1 * x2.toInt + (8 * x5.toInt + 0))) + 0 := by
    obtain ⟨z, e6, e7⟩ := m3 ([(3, 1), (2, -1), (5, 8)], 0) (List.mem_of_getElem? (i := 0) rfl)
    obtain rfl : (1 * x3.toInt + (-1 * x2.toInt + (8 * x5.toInt + 0))) = z := Option.some.inj (show some (1 * x3.toInt + (-1 * x2.toInt + (8 * x5.toInt + 0))) = some z from e6)
    exact e7
  have l1 : 0 ≤ (-1 * x3.toInt + (1 * x2.toInt + (-8 * x5.toInt + 0))) + 0 := by
    obtain ⟨z, e6, e7⟩ := m3 ([(3, -1), (2, 1), (5, -8)], 0) (List.mem_of_getElem? (i := 1) rfl)
    obtain rfl : (-1 * x3.toInt + (1 * x2.toInt + (-8 * x5.toInt + 0))) = z := Option.some.inj (show some (-1 * x3.toInt + (1 * x2.toInt + (-8 * x5.toInt + 0))) = some z from e6)
    exact e7
  have f0 : fB K n p 1 [fR x0] σ := by
    obtain ⟨w, e6, e7⟩ := m4 (17, [0]) (List.mem_of_getElem? (i := 0) rfl)
    obtain rfl : [fR x0] = w := Option.some.inj (show some [fR x0] = some w from e6)
    exact (fF_b (r := 17) (by decide) rfl).mp e7
  clear m1 m2 m3 m4
  have q0 : fB K n p 25 [fI x1, fI x3] σ := by
    obtain ⟨a, e, h0, hg⟩ := f0
    cases e
    have hF := fAt_of h0 s0
    obtain ⟨g, hr1, hr2⟩ := hF.1 x4 t0
    rw [hr1] at sc0
    cases sc0
    refine ⟨x1, x3, rfl, ?_⟩
    have h2 := hF.2.1 x5 (by rw [s0] at s1; cases s1; exact t1)
    have h3 := hr2 ic0 (by omega)
    have h4 : x1.toNatClampNeg = ic0 := by rw [fNc]; omega
    have h5 : x3.toNatClampNeg = x3.toInt.toNat := rfl
    unfold fOw
    rw [h4, ← h3, ← ec0, ← h2]
    omega
  refine ⟨p, fun _ => rfl, ⟨fun q h => (by cases h), fun q h => (by cases h), ?_, ?_⟩, [], List.mem_cons_self, fun f h => (by cases h)⟩
  · exact fun f h => by cases h
  · exact (aAllc ⟨_, rfl, (fF_b (r := 402) (by decide) rfl).mpr q0⟩ (fun f h => by cases h))
theorem rw_ruOW1 {K : Nat → Nat} {n : Nat} : aGho (fF K n) fa_T K n (fJX K n) ag_ruOW1 := by
  refine aGho_of ⟨rfl, rfl⟩ ?_
  intro p σ ρ hH hX hA hM
  have hG := aAG_of hA.1 (fun i e v he hv => (hA.2 i e v he hv).1)
  clear hA
  obtain ⟨v0, v1, rfl, g0, g1⟩ := fA_2 hG
  clear hG
  obtain ⟨x0, rfl, b0, d0⟩ := aG_int g0
  dsimp only at b0 d0
  obtain ⟨x1, rfl, b1, d1⟩ := aG_int g1
  dsimp only at b1 d1
  obtain ⟨m1, m2, m3, m4⟩ := hM
  have f0 : fB K n p 25 [fI x0, fI x1] σ := by
    obtain ⟨w, e6, e7⟩ := m4 (402, [0, 1]) (List.mem_of_getElem? (i := 0) rfl)
    obtain rfl : [fI x0, fI x1] = w := Option.some.inj (show some [fI x0, fI x1] = some w from e6)
    exact (fF_b (r := 402) (by decide) rfl).mp e7
  clear m1 m2 m3 m4
  have q0 : fB K n p 34 [fI x0] σ := by
    obtain ⟨s, k, e, h⟩ := f0
    cases e
    refine ⟨x0, rfl, ?_⟩
    have h5 : x1.toNatClampNeg = 1 := by rw [fNc]; omega
    rw [h5] at h
    exact h
  refine ⟨p, fun _ => rfl, ⟨fun q h => (by cases h), fun q h => (by cases h), ?_, ?_⟩, [], List.mem_cons_self, fun f h => (by cases h)⟩
  · exact fun f h => by cases h
  · exact (aAllc ⟨_, rfl, (fF_b (r := 545) (by decide) rfl).mpr q0⟩ (fun f h => by cases h))
theorem rw_ruOW2 {K : Nat → Nat} {n : Nat} : aGho (fF K n) fa_T K n (fJX K n) ag_ruOW2 := by
  refine aGho_of ⟨rfl, rfl⟩ ?_
  intro p σ ρ hH hX hA hM
  have hG := aAG_of hA.1 (fun i e v he hv => (hA.2 i e v he hv).1)
  clear hA
  obtain ⟨v0, v1, rfl, g0, g1⟩ := fA_2 hG
  clear hG
  obtain ⟨x0, rfl, b0, d0⟩ := aG_int g0
  dsimp only at b0 d0
  obtain ⟨x1, rfl, b1, d1⟩ := aG_int g1
  dsimp only at b1 d1
  obtain ⟨m1, m2, m3, m4⟩ := hM
  have f0 : fB K n p 25 [fI x0, fI x1] σ := by
    obtain ⟨w, e6, e7⟩ := m4 (402, [0, 1]) (List.mem_of_getElem? (i := 0) rfl)
    obtain rfl : [fI x0, fI x1] = w := Option.some.inj (show some [fI x0, fI x1] = some w from e6)
    exact (fF_b (r := 402) (by decide) rfl).mp e7
  clear m1 m2 m3 m4
  have q0 : fB K n p 35 [fI x0] σ := by
    obtain ⟨s, k, e, h⟩ := f0
    cases e
    refine ⟨x0, rfl, ?_⟩
    have h5 : x1.toNatClampNeg = 2 := by rw [fNc]; omega
    rw [h5] at h
    exact h
  refine ⟨p, fun _ => rfl, ⟨fun q h => (by cases h), fun q h => (by cases h), ?_, ?_⟩, [], List.mem_cons_self, fun f h => (by cases h)⟩
  · exact fun f h => by cases h
  · exact (aAllc ⟨_, rfl, (fF_b (r := 561) (by decide) rfl).mpr q0⟩ (fun f h => by cases h))
theorem rw_ruOW6 {K : Nat → Nat} {n : Nat} : aGho (fF K n) fa_T K n (fJX K n) ag_ruOW6 := by
  refine aGho_of ⟨rfl, rfl⟩ ?_
  intro p σ ρ hH hX hA hM
  have hG := aAG_of hA.1 (fun i e v he hv => (hA.2 i e v he hv).1)
  clear hA
  obtain ⟨v0, v1, rfl, g0, g1⟩ := fA_2 hG
  clear hG
  obtain ⟨x0, rfl, b0, d0⟩ := aG_int g0
  dsimp only at b0 d0
  obtain ⟨x1, rfl, b1, d1⟩ := aG_int g1
  dsimp only at b1 d1
  obtain ⟨m1, m2, m3, m4⟩ := hM
  have f0 : fB K n p 25 [fI x0, fI x1] σ := by
    obtain ⟨w, e6, e7⟩ := m4 (402, [0, 1]) (List.mem_of_getElem? (i := 0) rfl)
    obtain rfl : [fI x0, fI x1] = w := Option.some.inj (show some [fI x0, fI x1] = some w from e6)
    exact (fF_b (r := 402) (by decide) rfl).mp e7
  clear m1 m2 m3 m4
  have q0 : fB K n p 36 [fI x0] σ := by
    obtain ⟨s, k, e, h⟩ := f0
    cases e
    refine ⟨x0, rfl, ?_⟩
    have h5 : x1.toNatClampNeg = 6 := by rw [fNc]; omega
    rw [h5] at h
    exact h
  refine ⟨p, fun _ => rfl, ⟨fun q h => (by cases h), fun q h => (by cases h), ?_, ?_⟩, [], List.mem_cons_self, fun f h => (by cases h)⟩
  · exact fun f h => by cases h
  · exact (aAllc ⟨_, rfl, (fF_b (r := 577) (by decide) rfl).mpr q0⟩ (fun f h => by cases h))
theorem rw_ruNK {K : Nat → Nat} {n : Nat} : aGho (fF K n) fa_T K n (fJX K n) ag_ruNK := by
  refine aGho_of ⟨rfl, rfl⟩ ?_
  intro p σ ρ hH hX hA hM
  have hG := aAG_of hA.1 (fun i e v he hv => (hA.2 i e v he hv).1)
  clear hA
  obtain ⟨v0, rfl, g0⟩ := fA_1 hG
  clear hG
  obtain ⟨x0, rfl, b0, d0⟩ := aG_int g0
  dsimp only at b0 d0
  obtain ⟨m1, m2, m3, m4⟩ := hM
  clear m1 m2 m3 m4
  have q0 : fB K n p 31 [fI x0] σ := by
    exact ⟨x0, rfl, by omega, by omega⟩
  refine ⟨p, fun _ => rfl, ⟨fun q h => (by cases h), fun q h => (by cases h), ?_, ?_⟩, [], List.mem_cons_self, fun f h => (by cases h)⟩
  · exact fun f h => by cases h
  · exact (aAllc ⟨_, rfl, (fF_b (r := 497) (by decide) rfl).mpr q0⟩ (fun f h => by cases h))
theorem rw_ruKD {K : Nat → Nat} {n : Nat} : aGho (fF K n) fa_T K n (fJX K n) ag_ruKD := by
  refine aGho_of ⟨rfl, rfl⟩ ?_
  intro p σ ρ hH hX hA hM
  have hG := aAG_of hA.1 (fun i e v he hv => (hA.2 i e v he hv).1)
  clear hA
  obtain ⟨v0, v1, v2, v3, v4, v5, rfl, g0, g1, g2, g3, g4, g5⟩ := fA_6 hG
  clear hG
  obtain ⟨x0, rfl, b0, d0⟩ := fG_ref (by decide) g0
  obtain ⟨x1, rfl, b1, d1⟩ := aG_int g1
  dsimp only at b1 d1
  obtain ⟨x2, rfl, b2, d2⟩ := aG_int g2
  dsimp only at b2 d2
  obtain ⟨x3, rfl, b3, d3⟩ := aG_int g3
  dsimp only at b3 d3
  obtain ⟨x4, rfl, b4, d4⟩ := fG_ref (by decide) g4
  obtain ⟨x5, rfl, b5, d5⟩ := aG_int g5
  dsimp only at b5 d5
  obtain ⟨m1, m2, m3, m4⟩ := hM
  obtain ⟨a0, c0, fs0, w0, e1, s0, t0, e4⟩ := m1 (0, 0, 4) (List.mem_of_getElem? (i := 0) rfl)
  obtain rfl : x0 = a0 := Sum.inl.inj (Option.some.inj (Sum.inr.inj (Sum.inr.inj (Option.some.inj (show some (fR x0) = some _ from e1)))))
  obtain rfl : fR x4 = w0 := Option.some.inj (show some (fR x4) = some _ from e4)
  clear e1 e4
  obtain ⟨a1, c1, fs1, w1, e1, s1, t1, e4⟩ := m1 (0, 2, 5) (List.mem_of_getElem? (i := 1) rfl)
  obtain rfl : x0 = a1 := Sum.inl.inj (Option.some.inj (Sum.inr.inj (Sum.inr.inj (Option.some.inj (show some (fR x0) = some _ from e1)))))
  obtain rfl : fI x5 = w1 := Option.some.inj (show some (fI x5) = some _ from e4)
  clear e1 e4
  obtain ⟨a, mc0, ty0, gc0, ic0, e1, sc0, jc0, e4, e5⟩ := m2 (4, ([(1, 1)], 0), 2) (List.mem_of_getElem? (i := 0) rfl)
  obtain rfl : x4 = a := Sum.inl.inj (Option.some.inj (Sum.inr.inj (Sum.inr.inj (Option.some.inj (show some (fR x4) = some _ from e1)))))
  obtain ⟨gc0, rfl⟩ : ∃ g, gc0 = .inl g := by
    rcases gc0 with g | g
    · exact ⟨g, rfl⟩
    · exact absurd (show some (fI x2) = some (.inr (.inl (g ic0))) from e5) (fun h => by cases h)
  have sc0 : σ x4 = .inl (ty0, mc0, .inl gc0) := sc0
  have ec0 : x2 = gc0 ic0 := Sum.inl.inj (Option.some.inj (show some (fI x2) = some _ from e5))
  have kc0 : (ic0 : Int) = (1 * x1.toInt + 0) + 0 := by
    obtain ⟨z, e6, e7⟩ := e4
    obtain rfl : (1 * x1.toInt + 0) = z := Option.some.inj (show some (1 * x1.toInt + 0) = some z from e6)
    exact e7
  clear e1 e4 e5
  have l0 : 0 ≤ (1 * x3.toInt + (-1 * x2.toInt + (8 * x5.toInt + 0))) + 0 := by
    obtain ⟨z, e6, e7⟩ := m3 ([(3, 1), (2, -1), (5, 8)], 0) (List.mem_of_getElem? (i := 0) rfl)
    obtain rfl : (1 * x3.toInt + (-1 * x2.toInt + (8 * x5.toInt + 0))) = z := Option.some.inj (show some (1 * x3.toInt + (-1 * x2.toInt + (8 * x5.toInt + 0))) = some z from e6)
    exact e7
  have l1 : 0 ≤ (-1 * x3.toInt + (1 * x2.toInt + (-8 * x5.toInt + 0))) + 0 := by
    obtain ⟨z, e6, e7⟩ := m3 ([(3, -1), (2, 1), (5, -8)], 0) (List.mem_of_getElem? (i := 1) rfl)
    obtain rfl : (-1 * x3.toInt + (1 * x2.toInt + (-8 * x5.toInt + 0))) = z := Option.some.inj (show some (-1 * x3.toInt + (1 * x2.toInt + (-8 * x5.toInt + 0))) = some z from e6)
    exact e7
  have f0 : fB K n p 1 [fR x0] σ := by
    obtain ⟨w, e6, e7⟩ := m4 (17, [0]) (List.mem_of_getElem? (i := 0) rfl)
    obtain rfl : [fR x0] = w := Option.some.inj (show some [fR x0] = some w from e6)
    exact (fF_b (r := 17) (by decide) rfl).mp e7
  clear m1 m2 m3 m4
  have r0 : 0 ≤ (1 * x3.toInt + 0) + -1 := by
    obtain ⟨a, e, h0, hg⟩ := f0
    cases e
    have hF := fAt_of h0 s0
    obtain ⟨g, hr1, hr2⟩ := hF.1 x4 t0
    rw [hr1] at sc0
    cases sc0
    have h2 := hF.2.1 x5 (by rw [s0] at s1; cases s1; exact t1)
    have h3 := hr2 ic0 (by omega)
    have h4 := hg.1.2.2.2.2 ic0 (by omega)
    rw [← h3, ← ec0] at h4
    omega
  have r1 : 0 ≤ (-1 * x3.toInt + 0) + 6 := by
    obtain ⟨a, e, h0, hg⟩ := f0
    cases e
    have hF := fAt_of h0 s0
    obtain ⟨g, hr1, hr2⟩ := hF.1 x4 t0
    rw [hr1] at sc0
    cases sc0
    have h2 := hF.2.1 x5 (by rw [s0] at s1; cases s1; exact t1)
    have h3 := hr2 ic0 (by omega)
    have h4 := hg.1.2.2.2.2 ic0 (by omega)
    rw [← h3, ← ec0] at h4
    omega
  refine ⟨p, fun _ => rfl, ⟨fun q h => (by cases h), fun q h => (by cases h), ?_, ?_⟩, [], List.mem_cons_self, fun f h => (by cases h)⟩
  · exact (aAllc ⟨_, rfl, r0⟩ (aAllc ⟨_, rfl, r1⟩ (fun f h => by cases h)))
  · exact (fun f h => by cases h)
theorem rw_ruPP {K : Nat → Nat} {n : Nat} : aGho (fF K n) fa_T K n (fJX K n) ag_ruPP := by
  refine aGho_of ⟨rfl, rfl⟩ ?_
  intro p σ ρ hH hX hA hM
  have hG := aAG_of hA.1 (fun i e v he hv => (hA.2 i e v he hv).1)
  clear hA
  obtain ⟨v0, v1, rfl, g0, g1⟩ := fA_2 hG
  clear hG
  obtain ⟨x0, rfl, b0, d0⟩ := fG_ref (by decide) g0
  obtain ⟨x1, rfl, b1, d1⟩ := aG_int g1
  dsimp only at b1 d1
  obtain ⟨m1, m2, m3, m4⟩ := hM
  obtain ⟨a0, c0, fs0, w0, e1, s0, t0, e4⟩ := m1 (0, 4, 1) (List.mem_of_getElem? (i := 0) rfl)
  obtain rfl : x0 = a0 := Sum.inl.inj (Option.some.inj (Sum.inr.inj (Sum.inr.inj (Option.some.inj (show some (fR x0) = some _ from e1)))))
  obtain rfl : fI x1 = w0 := Option.some.inj (show some (fI x1) = some _ from e4)
  clear e1 e4
  have f0 : fB K n p 1 [fR x0] σ := by
    obtain ⟨w, e6, e7⟩ := m4 (17, [0]) (List.mem_of_getElem? (i := 0) rfl)
    obtain rfl : [fR x0] = w := Option.some.inj (show some [fR x0] = some w from e6)
    exact (fF_b (r := 17) (by decide) rfl).mp e7
  clear m1 m2 m3 m4
  have r0 : 0 ≤ (1 * x1.toInt + 0) + -16 := by
    obtain ⟨a, e, h0, hg⟩ := f0
    cases e
    have hF := fAt_of h0 s0
    have h4 := hF.2.2.2.1 _ t0
    have hs := hg.1.2.2.1
    have hp := hg.1.1
    rw [← h4] at hp
    rcases hp with hp | ⟨p1, p2, p3, p4, p5⟩
    · omega
    · by_cases hz : ((fq p).2 2).toInt = 0
      · have := p4 hz
        omega
      · have := p5 (by omega)
        omega
  have r1 : 0 ≤ (-1 * x1.toInt + 0) + 47 := by
    obtain ⟨a, e, h0, hg⟩ := f0
    cases e
    have hF := fAt_of h0 s0
    have h4 := hF.2.2.2.1 _ t0
    have hs := hg.1.2.2.1
    have hp := hg.1.1
    rw [← h4] at hp
    rcases hp with hp | ⟨p1, p2, p3, p4, p5⟩
    · omega
    · by_cases hz : ((fq p).2 2).toInt = 0
      · have := p4 hz
        omega
      · have := p5 (by omega)
        omega
  refine ⟨p, fun _ => rfl, ⟨fun q h => (by cases h), fun q h => (by cases h), ?_, ?_⟩, [], List.mem_cons_self, fun f h => (by cases h)⟩
  · exact (aAllc ⟨_, rfl, r0⟩ (aAllc ⟨_, rfl, r1⟩ (fun f h => by cases h)))
  · exact (fun f h => by cases h)
theorem rw_ruPE {K : Nat → Nat} {n : Nat} : aGho (fF K n) fa_T K n (fJX K n) ag_ruPE := by
  refine aGho_of ⟨rfl, rfl⟩ ?_
  intro p σ ρ hH hX hA hM
  have hG := aAG_of hA.1 (fun i e v he hv => (hA.2 i e v he hv).1)
  clear hA
  obtain ⟨v0, v1, v2, rfl, g0, g1, g2⟩ := fA_3 hG
  clear hG
  obtain ⟨x0, rfl, b0, d0⟩ := fG_ref (by decide) g0
  obtain ⟨x1, rfl, b1, d1⟩ := aG_int g1
  dsimp only at b1 d1
  obtain ⟨x2, rfl, b2, d2⟩ := aG_int g2
  dsimp only at b2 d2
  obtain ⟨m1, m2, m3, m4⟩ := hM
  obtain ⟨a0, c0, fs0, w0, e1, s0, t0, e4⟩ := m1 (0, 4, 2) (List.mem_of_getElem? (i := 0) rfl)
  obtain rfl : x0 = a0 := Sum.inl.inj (Option.some.inj (Sum.inr.inj (Sum.inr.inj (Option.some.inj (show some (fR x0) = some _ from e1)))))
  obtain rfl : fI x2 = w0 := Option.some.inj (show some (fI x2) = some _ from e4)
  clear e1 e4
  have l0 : 0 ≤ (1 * x1.toInt + (-1 * x2.toInt + 0)) + 0 := by
    obtain ⟨z, e6, e7⟩ := m3 ([(1, 1), (2, -1)], 0) (List.mem_of_getElem? (i := 0) rfl)
    obtain rfl : (1 * x1.toInt + (-1 * x2.toInt + 0)) = z := Option.some.inj (show some (1 * x1.toInt + (-1 * x2.toInt + 0)) = some z from e6)
    exact e7
  have l1 : 0 ≤ (-1 * x1.toInt + (1 * x2.toInt + 0)) + 0 := by
    obtain ⟨z, e6, e7⟩ := m3 ([(1, -1), (2, 1)], 0) (List.mem_of_getElem? (i := 1) rfl)
    obtain rfl : (-1 * x1.toInt + (1 * x2.toInt + 0)) = z := Option.some.inj (show some (-1 * x1.toInt + (1 * x2.toInt + 0)) = some z from e6)
    exact e7
  have f0 : fB K n p 1 [fR x0] σ := by
    obtain ⟨w, e6, e7⟩ := m4 (17, [0]) (List.mem_of_getElem? (i := 0) rfl)
    obtain rfl : [fR x0] = w := Option.some.inj (show some [fR x0] = some w from e6)
    exact (fF_b (r := 17) (by decide) rfl).mp e7
  clear m1 m2 m3 m4
  have q0 : fB K n p 38 [fI x1] σ := by
    obtain ⟨a, e, h0, hg⟩ := f0
    cases e
    have hF := fAt_of h0 s0
    have h4 := hF.2.2.2.1 _ t0
    have hs := hg.1.2.2.1
    have hp := hg.1.1
    rw [← h4] at hp
    refine ⟨x1, rfl, ?_⟩
    rcases hp with hp | ⟨p1, p2, p3, p4, p5⟩
    · omega
    · rw [fNc, show x1.toInt = x2.toInt by omega]
      exact p2
  refine ⟨p, fun _ => rfl, ⟨fun q h => (by cases h), fun q h => (by cases h), ?_, ?_⟩, [], List.mem_cons_self, fun f h => (by cases h)⟩
  · exact fun f h => by cases h
  · exact (aAllc ⟨_, rfl, (fF_b (r := 609) (by decide) rfl).mpr q0⟩ (fun f h => by cases h))
theorem rw_ruB1 {K : Nat → Nat} {n : Nat} : aGho (fF K n) fa_T K n (fJX K n) ag_ruB1 := by
  refine aGho_of ⟨rfl, rfl⟩ ?_
  intro p σ ρ hH hX hA hM
  have hG := aAG_of hA.1 (fun i e v he hv => (hA.2 i e v he hv).1)
  clear hA
  obtain ⟨v0, v1, v2, v3, rfl, g0, g1, g2, g3⟩ := fA_4 hG
  clear hG
  obtain ⟨x0, rfl, b0, d0⟩ := fG_ref (by decide) g0
  obtain ⟨x1, rfl, b1, d1⟩ := aG_int g1
  dsimp only at b1 d1
  obtain ⟨x2, rfl, b2, d2⟩ := aG_int g2
  dsimp only at b2 d2
  obtain ⟨x3, rfl, b3, d3⟩ := fG_ref (by decide) g3
  obtain ⟨m1, m2, m3, m4⟩ := hM
  obtain ⟨a0, c0, fs0, w0, e1, s0, t0, e4⟩ := m1 (0, 0, 3) (List.mem_of_getElem? (i := 0) rfl)
  obtain rfl : x0 = a0 := Sum.inl.inj (Option.some.inj (Sum.inr.inj (Sum.inr.inj (Option.some.inj (show some (fR x0) = some _ from e1)))))
  obtain rfl : fR x3 = w0 := Option.some.inj (show some (fR x3) = some _ from e4)
  clear e1 e4
  have f0 : fB K n p 1 [fR x0] σ := by
    obtain ⟨w, e6, e7⟩ := m4 (17, [0]) (List.mem_of_getElem? (i := 0) rfl)
    obtain rfl : [fR x0] = w := Option.some.inj (show some [fR x0] = some w from e6)
    exact (fF_b (r := 17) (by decide) rfl).mp e7
  clear m1 m2 m3 m4
  have q0 : fB K n p 6 [fR x0, fI x1, fI x2, fI x1, fI x2, fI x1, fI x2] (jup σ x3 (jsto (σ x3) x1.toNatClampNeg x2)) := by
    obtain ⟨a, e, h0, hg⟩ := f0
    cases e
    have hF := fAt_of h0 s0
    refine ⟨x0, x1, x2, x1, x2, x1, x2, rfl, fAt_cg (fAt_st h0 s0 t0) ?_, hg⟩
    intro i hi
    unfold upd
    repeat' split
    all_goals first | rfl | omega | (exfalso; omega)
  refine ⟨p, fun _ => rfl, ⟨fun q h => (by cases h), fun q h => (by cases h), ?_, ?_⟩, [], List.mem_cons_self, fun f h => (by cases h)⟩
  · exact fun f h => by cases h
  · exact (aAllc ⟨_, rfl, fF_p (r := 103) (by decide) (by decide) rfl q0⟩ (fun f h => by cases h))
theorem rw_ruB2 {K : Nat → Nat} {n : Nat} : aGho (fF K n) fa_T K n (fJX K n) ag_ruB2 := by
  refine aGho_of ⟨rfl, rfl⟩ ?_
  intro p σ ρ hH hX hA hM
  have hG := aAG_of hA.1 (fun i e v he hv => (hA.2 i e v he hv).1)
  clear hA
  obtain ⟨v0, v1, v2, v3, v4, v5, rfl, g0, g1, g2, g3, g4, g5⟩ := fA_6 hG
  clear hG
  obtain ⟨x0, rfl, b0, d0⟩ := fG_ref (by decide) g0
  obtain ⟨x1, rfl, b1, d1⟩ := aG_int g1
  dsimp only at b1 d1
  obtain ⟨x2, rfl, b2, d2⟩ := aG_int g2
  dsimp only at b2 d2
  obtain ⟨x3, rfl, b3, d3⟩ := aG_int g3
  dsimp only at b3 d3
  obtain ⟨x4, rfl, b4, d4⟩ := aG_int g4
  dsimp only at b4 d4
  obtain ⟨x5, rfl, b5, d5⟩ := fG_ref (by decide) g5
  obtain ⟨m1, m2, m3, m4⟩ := hM
  obtain ⟨a0, c0, fs0, w0, e1, s0, t0, e4⟩ := m1 (0, 0, 5) (List.mem_of_getElem? (i := 0) rfl)
  obtain rfl : x0 = a0 := Sum.inl.inj (Option.some.inj (Sum.inr.inj (Sum.inr.inj (Option.some.inj (show some (fR x0) = some _ from e1)))))
  obtain rfl : fR x5 = w0 := Option.some.inj (show some (fR x5) = some _ from e4)
  clear e1 e4
  have f0 : fB K n p 6 [fR x0, fI x1, fI x2, fI x1, fI x2, fI x1, fI x2] σ := by
    obtain ⟨w, e6, e7⟩ := m4 (103, [0, 1, 2, 1, 2, 1, 2]) (List.mem_of_getElem? (i := 0) rfl)
    obtain rfl : [fR x0, fI x1, fI x2, fI x1, fI x2, fI x1, fI x2] = w := Option.some.inj (show some [fR x0, fI x1, fI x2, fI x1, fI x2, fI x1, fI x2] = some w from e6)
    exact (fF_b (r := 103) (by decide) rfl).mp e7
  clear m1 m2 m3 m4
  have q0 : fB K n p 6 [fR x0, fI x1, fI x2, fI x3, fI x4, fI x3, fI x4] (jup σ x5 (jsto (σ x5) x3.toNatClampNeg x4)) := by
    obtain ⟨a, u1, w1, u2, w2, u3, w3, e, h0, hg⟩ := f0
    cases e
    refine ⟨x0, x1, x2, x3, x4, x3, x4, rfl, fAt_cg (fAt_st h0 s0 t0) ?_, hg⟩
    intro i hi
    unfold upd
    repeat' split
    all_goals first | rfl | omega | (exfalso; omega)
  refine ⟨p, fun _ => rfl, ⟨fun q h => (by cases h), fun q h => (by cases h), ?_, ?_⟩, [], List.mem_cons_self, fun f h => (by cases h)⟩
  · exact fun f h => by cases h
  · exact (aAllc ⟨_, rfl, fF_p (r := 103) (by decide) (by decide) rfl q0⟩ (fun f h => by cases h))
theorem rw_ruB3 {K : Nat → Nat} {n : Nat} : aGho (fF K n) fa_T K n (fJX K n) ag_ruB3 := by
  refine aGho_of ⟨rfl, rfl⟩ ?_
  intro p σ ρ hH hX hA hM
  have hG := aAG_of hA.1 (fun i e v he hv => (hA.2 i e v he hv).1)
  clear hA
  obtain ⟨v0, v1, v2, v3, v4, v5, v6, v7, rfl, g0, g1, g2, g3, g4, g5, g6, g7⟩ := fA_8 hG
  clear hG
  obtain ⟨x0, rfl, b0, d0⟩ := fG_ref (by decide) g0
  obtain ⟨x1, rfl, b1, d1⟩ := aG_int g1
  dsimp only at b1 d1
  obtain ⟨x2, rfl, b2, d2⟩ := aG_int g2
  dsimp only at b2 d2
  obtain ⟨x3, rfl, b3, d3⟩ := aG_int g3
  dsimp only at b3 d3
  obtain ⟨x4, rfl, b4, d4⟩ := aG_int g4
  dsimp only at b4 d4
  obtain ⟨x5, rfl, b5, d5⟩ := aG_int g5
  dsimp only at b5 d5
  obtain ⟨x6, rfl, b6, d6⟩ := aG_int g6
  dsimp only at b6 d6
  obtain ⟨x7, rfl, b7, d7⟩ := fG_ref (by decide) g7
  obtain ⟨m1, m2, m3, m4⟩ := hM
  obtain ⟨a0, c0, fs0, w0, e1, s0, t0, e4⟩ := m1 (0, 0, 7) (List.mem_of_getElem? (i := 0) rfl)
  obtain rfl : x0 = a0 := Sum.inl.inj (Option.some.inj (Sum.inr.inj (Sum.inr.inj (Option.some.inj (show some (fR x0) = some _ from e1)))))
  obtain rfl : fR x7 = w0 := Option.some.inj (show some (fR x7) = some _ from e4)
  clear e1 e4
  have f0 : fB K n p 6 [fR x0, fI x1, fI x2, fI x3, fI x4, fI x3, fI x4] σ := by
    obtain ⟨w, e6, e7⟩ := m4 (103, [0, 1, 2, 3, 4, 3, 4]) (List.mem_of_getElem? (i := 0) rfl)
    obtain rfl : [fR x0, fI x1, fI x2, fI x3, fI x4, fI x3, fI x4] = w := Option.some.inj (show some [fR x0, fI x1, fI x2, fI x3, fI x4, fI x3, fI x4] = some w from e6)
    exact (fF_b (r := 103) (by decide) rfl).mp e7
  clear m1 m2 m3 m4
  have q0 : fB K n p 6 [fR x0, fI x1, fI x2, fI x3, fI x4, fI x5, fI x6] (jup σ x7 (jsto (σ x7) x5.toNatClampNeg x6)) := by
    obtain ⟨a, u1, w1, u2, w2, u3, w3, e, h0, hg⟩ := f0
    cases e
    refine ⟨x0, x1, x2, x3, x4, x5, x6, rfl, fAt_cg (fAt_st h0 s0 t0) ?_, hg⟩
    intro i hi
    unfold upd
    repeat' split
    all_goals first | rfl | omega | (exfalso; omega)
  refine ⟨p, fun _ => rfl, ⟨fun q h => (by cases h), fun q h => (by cases h), ?_, ?_⟩, [], List.mem_cons_self, fun f h => (by cases h)⟩
  · exact fun f h => by cases h
  · exact (aAllc ⟨_, rfl, fF_p (r := 103) (by decide) (by decide) rfl q0⟩ (fun f h => by cases h))
theorem rw_ruB4 {K : Nat → Nat} {n : Nat} : aGho (fF K n) fa_T K n (fJX K n) ag_ruB4 := by
  refine aGho_of ⟨rfl, rfl⟩ ?_
  intro p σ ρ hH hX hA hM
  have hG := aAG_of hA.1 (fun i e v he hv => (hA.2 i e v he hv).1)
  clear hA
  obtain ⟨v0, v1, v2, v3, v4, v5, v6, v7, v8, rfl, g0, g1, g2, g3, g4, g5, g6, g7, g8⟩ := fA_9 hG
  clear hG
  obtain ⟨x0, rfl, b0, d0⟩ := fG_ref (by decide) g0
  obtain ⟨x1, rfl, b1, d1⟩ := aG_int g1
  dsimp only at b1 d1
  obtain ⟨x2, rfl, b2, d2⟩ := aG_int g2
  dsimp only at b2 d2
  obtain ⟨x3, rfl, b3, d3⟩ := aG_int g3
  dsimp only at b3 d3
  obtain ⟨x4, rfl, b4, d4⟩ := aG_int g4
  dsimp only at b4 d4
  obtain ⟨x5, rfl, b5, d5⟩ := aG_int g5
  dsimp only at b5 d5
  obtain ⟨x6, rfl, b6, d6⟩ := aG_int g6
  dsimp only at b6 d6
  obtain ⟨x7, rfl, b7, d7⟩ := aG_int g7
  dsimp only at b7 d7
  obtain ⟨x8, rfl, b8, d8⟩ := fG_ref (by decide) g8
  obtain ⟨m1, m2, m3, m4⟩ := hM
  obtain ⟨a0, c0, fs0, w0, e1, s0, t0, e4⟩ := m1 (0, 0, 8) (List.mem_of_getElem? (i := 0) rfl)
  obtain rfl : x0 = a0 := Sum.inl.inj (Option.some.inj (Sum.inr.inj (Sum.inr.inj (Option.some.inj (show some (fR x0) = some _ from e1)))))
  obtain rfl : fR x8 = w0 := Option.some.inj (show some (fR x8) = some _ from e4)
  clear e1 e4
  have f0 : fB K n p 6 [fR x0, fI x1, fI x2, fI x3, fI x4, fI x5, fI x6] σ := by
    obtain ⟨w, e6, e7⟩ := m4 (103, [0, 1, 2, 3, 4, 5, 6]) (List.mem_of_getElem? (i := 0) rfl)
    obtain rfl : [fR x0, fI x1, fI x2, fI x3, fI x4, fI x5, fI x6] = w := Option.some.inj (show some [fR x0, fI x1, fI x2, fI x3, fI x4, fI x5, fI x6] = some w from e6)
    exact (fF_b (r := 103) (by decide) rfl).mp e7
  clear m1 m2 m3 m4
  have q0 : fB K n p 6 [fR x0, fI x1, fI x2, fI x3, fI x4, fI x5, fI x7] (jup σ x8 (jsto (σ x8) x5.toNatClampNeg x7)) := by
    obtain ⟨a, u1, w1, u2, w2, u3, w3, e, h0, hg⟩ := f0
    cases e
    refine ⟨x0, x1, x2, x3, x4, x5, x7, rfl, fAt_cg (fAt_st h0 s0 t0) ?_, hg⟩
    intro i hi
    unfold upd
    repeat' split
    all_goals first | rfl | omega | (exfalso; omega)
  refine ⟨p, fun _ => rfl, ⟨fun q h => (by cases h), fun q h => (by cases h), ?_, ?_⟩, [], List.mem_cons_self, fun f h => (by cases h)⟩
  · exact fun f h => by cases h
  · exact (aAllc ⟨_, rfl, fF_p (r := 103) (by decide) (by decide) rfl q0⟩ (fun f h => by cases h))
theorem rw_ruB5a {K : Nat → Nat} {n : Nat} : aGho (fF K n) fa_T K n (fJX K n) ag_ruB5a := by
  refine aGho_of ⟨rfl, rfl⟩ ?_
  intro p σ ρ hH hX hA hM
  have hG := aAG_of hA.1 (fun i e v he hv => (hA.2 i e v he hv).1)
  clear hA
  obtain ⟨v0, v1, v2, v3, v4, v5, v6, v7, v8, rfl, g0, g1, g2, g3, g4, g5, g6, g7, g8⟩ := fA_9 hG
  clear hG
  obtain ⟨x0, rfl, b0, d0⟩ := fG_ref (by decide) g0
  obtain ⟨x1, rfl, b1, d1⟩ := aG_int g1
  dsimp only at b1 d1
  obtain ⟨x2, rfl, b2, d2⟩ := aG_int g2
  dsimp only at b2 d2
  obtain ⟨x3, rfl, b3, d3⟩ := aG_int g3
  dsimp only at b3 d3
  obtain ⟨x4, rfl, b4, d4⟩ := aG_int g4
  dsimp only at b4 d4
  obtain ⟨x5, rfl, b5, d5⟩ := aG_int g5
  dsimp only at b5 d5
  obtain ⟨x6, rfl, b6, d6⟩ := aG_int g6
  dsimp only at b6 d6
  obtain ⟨x7, rfl, b7, d7⟩ := aG_int g7
  dsimp only at b7 d7
  obtain ⟨x8, rfl, b8, d8⟩ := fG_ref (by decide) g8
  obtain ⟨m1, m2, m3, m4⟩ := hM
  obtain ⟨a0, c0, fs0, w0, e1, s0, t0, e4⟩ := m1 (0, 0, 8) (List.mem_of_getElem? (i := 0) rfl)
  obtain rfl : x0 = a0 := Sum.inl.inj (Option.some.inj (Sum.inr.inj (Sum.inr.inj (Option.some.inj (show some (fR x0) = some _ from e1)))))
  obtain rfl : fR x8 = w0 := Option.some.inj (show some (fR x8) = some _ from e4)
  clear e1 e4
  have l0 : 0 ≤ (1 * x5.toInt + (-1 * x3.toInt + 0)) + 0 := by
    obtain ⟨z, e6, e7⟩ := m3 ([(5, 1), (3, -1)], 0) (List.mem_of_getElem? (i := 0) rfl)
    obtain rfl : (1 * x5.toInt + (-1 * x3.toInt + 0)) = z := Option.some.inj (show some (1 * x5.toInt + (-1 * x3.toInt + 0)) = some z from e6)
    exact e7
  have l1 : 0 ≤ (-1 * x5.toInt + (1 * x3.toInt + 0)) + 0 := by
    obtain ⟨z, e6, e7⟩ := m3 ([(5, -1), (3, 1)], 0) (List.mem_of_getElem? (i := 1) rfl)
    obtain rfl : (-1 * x5.toInt + (1 * x3.toInt + 0)) = z := Option.some.inj (show some (-1 * x5.toInt + (1 * x3.toInt + 0)) = some z from e6)
    exact e7
  have f0 : fB K n p 6 [fR x0, fI x1, fI x2, fI x3, fI x4, fI x5, fI x6] σ := by
    obtain ⟨w, e6, e7⟩ := m4 (103, [0, 1, 2, 3, 4, 5, 6]) (List.mem_of_getElem? (i := 0) rfl)
    obtain rfl : [fR x0, fI x1, fI x2, fI x3, fI x4, fI x5, fI x6] = w := Option.some.inj (show some [fR x0, fI x1, fI x2, fI x3, fI x4, fI x5, fI x6] = some w from e6)
    exact (fF_b (r := 103) (by decide) rfl).mp e7
  have f1 : fB K n p 39 [fI x3, fI x7] σ := by
    obtain ⟨w, e6, e7⟩ := m4 (626, [3, 7]) (List.mem_of_getElem? (i := 1) rfl)
    obtain rfl : [fI x3, fI x7] = w := Option.some.inj (show some [fI x3, fI x7] = some w from e6)
    exact (fF_b (r := 626) (by decide) rfl).mp e7
  clear m1 m2 m3 m4
  have q0 : fB K n p 28 [fR x0, fI x1] (jup σ x8 (jsto (σ x8) x3.toNatClampNeg x7)) := by
    obtain ⟨a, u1, w1, u2, w2, u3, w3, e, h0, hg⟩ := f0
    cases e
    obtain ⟨s, v, e, hc⟩ := f1
    cases e
    refine ⟨x0, x1, rfl, ⟨(upd (upd (upd (upd (fq p).1 x1.toNatClampNeg x2) x3.toNatClampNeg x4) x5.toNatClampNeg x6) x3.toNatClampNeg x7) x1.toNatClampNeg, fAt_cg (fAt_st h0 s0 t0) ?_⟩, hg⟩
    intro i hi
    by_cases e1 : i = x1.toNatClampNeg
    · rw [e1]
      simp only [upd, if_pos]
    · have r1 : ∀ (v : Int32) (g : Nat → Int32), upd g x1.toNatClampNeg v i = g i := fun v g => by unfold upd; rw [if_neg e1]
      rw [r1]
      by_cases e2 : i = x3.toNatClampNeg
      · have r2 : ∀ (v : Int32) (g : Nat → Int32), upd g x3.toNatClampNeg v i = v := fun v g => by unfold upd; rw [if_pos e2]
        rw [r2, e2]
        exact hc.symm
      · have r2 : ∀ (v : Int32) (g : Nat → Int32), upd g x3.toNatClampNeg v i = g i := fun v g => by unfold upd; rw [if_neg e2]
        rw [r2]
        by_cases e3 : i = x5.toNatClampNeg
        · exfalso
          rw [fNc] at e2 e3
          omega
        · have r3 : ∀ (v : Int32) (g : Nat → Int32), upd g x5.toNatClampNeg v i = g i := fun v g => by unfold upd; rw [if_neg e3]
          rw [r3, r2, r1]
  refine ⟨p, fun _ => rfl, ⟨fun q h => (by cases h), fun q h => (by cases h), ?_, ?_⟩, [], List.mem_cons_self, fun f h => (by cases h)⟩
  · exact fun f h => by cases h
  · exact (aAllc ⟨_, rfl, fF_p (r := 450) (by decide) (by decide) rfl q0⟩ (fun f h => by cases h))
theorem rw_ruB5b {K : Nat → Nat} {n : Nat} : aGho (fF K n) fa_T K n (fJX K n) ag_ruB5b := by
  refine aGho_of ⟨rfl, rfl⟩ ?_
  intro p σ ρ hH hX hA hM
  have hG := aAG_of hA.1 (fun i e v he hv => (hA.2 i e v he hv).1)
  clear hA
  obtain ⟨v0, v1, v2, v3, v4, v5, v6, v7, v8, rfl, g0, g1, g2, g3, g4, g5, g6, g7, g8⟩ := fA_9 hG
  clear hG
  obtain ⟨x0, rfl, b0, d0⟩ := fG_ref (by decide) g0
  obtain ⟨x1, rfl, b1, d1⟩ := aG_int g1
  dsimp only at b1 d1
  obtain ⟨x2, rfl, b2, d2⟩ := aG_int g2
  dsimp only at b2 d2
  obtain ⟨x3, rfl, b3, d3⟩ := aG_int g3
  dsimp only at b3 d3
  obtain ⟨x4, rfl, b4, d4⟩ := aG_int g4
  dsimp only at b4 d4
  obtain ⟨x5, rfl, b5, d5⟩ := aG_int g5
  dsimp only at b5 d5
  obtain ⟨x6, rfl, b6, d6⟩ := aG_int g6
  dsimp only at b6 d6
  obtain ⟨x7, rfl, b7, d7⟩ := aG_int g7
  dsimp only at b7 d7
  obtain ⟨x8, rfl, b8, d8⟩ := fG_ref (by decide) g8
  obtain ⟨m1, m2, m3, m4⟩ := hM
  obtain ⟨a0, c0, fs0, w0, e1, s0, t0, e4⟩ := m1 (0, 0, 8) (List.mem_of_getElem? (i := 0) rfl)
  obtain rfl : x0 = a0 := Sum.inl.inj (Option.some.inj (Sum.inr.inj (Sum.inr.inj (Option.some.inj (show some (fR x0) = some _ from e1)))))
  obtain rfl : fR x8 = w0 := Option.some.inj (show some (fR x8) = some _ from e4)
  clear e1 e4
  have f0 : fB K n p 6 [fR x0, fI x1, fI x2, fI x3, fI x4, fI x5, fI x6] σ := by
    obtain ⟨w, e6, e7⟩ := m4 (103, [0, 1, 2, 3, 4, 5, 6]) (List.mem_of_getElem? (i := 0) rfl)
    obtain rfl : [fR x0, fI x1, fI x2, fI x3, fI x4, fI x5, fI x6] = w := Option.some.inj (show some [fR x0, fI x1, fI x2, fI x3, fI x4, fI x5, fI x6] = some w from e6)
    exact (fF_b (r := 103) (by decide) rfl).mp e7
  have f1 : fB K n p 39 [fI x3, fI x7] σ := by
    obtain ⟨w, e6, e7⟩ := m4 (626, [3, 7]) (List.mem_of_getElem? (i := 1) rfl)
    obtain rfl : [fI x3, fI x7] = w := Option.some.inj (show some [fI x3, fI x7] = some w from e6)
    exact (fF_b (r := 626) (by decide) rfl).mp e7
  have f2 : fB K n p 38 [fI x5] σ := by
    obtain ⟨w, e6, e7⟩ := m4 (609, [5]) (List.mem_of_getElem? (i := 2) rfl)
    obtain rfl : [fI x5] = w := Option.some.inj (show some [fI x5] = some w from e6)
    exact (fF_b (r := 609) (by decide) rfl).mp e7
  clear m1 m2 m3 m4
  have q0 : fB K n p 28 [fR x0, fI x1] (jup σ x8 (jsto (σ x8) x3.toNatClampNeg x7)) := by
    obtain ⟨a, u1, w1, u2, w2, u3, w3, e, h0, hg⟩ := f0
    cases e
    obtain ⟨s, v, e, hc⟩ := f1
    cases e
    obtain ⟨s, e, hz⟩ := f2
    cases e
    refine ⟨x0, x1, rfl, ⟨(upd (upd (upd (upd (fq p).1 x1.toNatClampNeg x2) x3.toNatClampNeg x4) x5.toNatClampNeg x6) x3.toNatClampNeg x7) x1.toNatClampNeg, fAt_cg (fAt_st h0 s0 t0) ?_⟩, hg⟩
    intro i hi
    by_cases e1 : i = x1.toNatClampNeg
    · rw [e1]
      simp only [upd, if_pos]
    · have r1 : ∀ (v : Int32) (g : Nat → Int32), upd g x1.toNatClampNeg v i = g i := fun v g => by unfold upd; rw [if_neg e1]
      rw [r1]
      by_cases e2 : i = x3.toNatClampNeg
      · have r2 : ∀ (v : Int32) (g : Nat → Int32), upd g x3.toNatClampNeg v i = v := fun v g => by unfold upd; rw [if_pos e2]
        rw [r2, e2]
        exact hc.symm
      · have r2 : ∀ (v : Int32) (g : Nat → Int32), upd g x3.toNatClampNeg v i = g i := fun v g => by unfold upd; rw [if_neg e2]
        rw [r2]
        by_cases e3 : i = x5.toNatClampNeg
        · have r3 : ∀ (v : Int32) (g : Nat → Int32), upd g x5.toNatClampNeg v i = v := fun v g => by unfold upd; rw [if_pos e3]
          rw [r3, e3]
          exact Int32.toInt_inj.mp (by omega)
        · have r3 : ∀ (v : Int32) (g : Nat → Int32), upd g x5.toNatClampNeg v i = g i := fun v g => by unfold upd; rw [if_neg e3]
          rw [r3, r2, r1]
  refine ⟨p, fun _ => rfl, ⟨fun q h => (by cases h), fun q h => (by cases h), ?_, ?_⟩, [], List.mem_cons_self, fun f h => (by cases h)⟩
  · exact fun f h => by cases h
  · exact (aAllc ⟨_, rfl, fF_p (r := 450) (by decide) (by decide) rfl q0⟩ (fun f h => by cases h))
theorem rw_ruB6 {K : Nat → Nat} {n : Nat} : aGho (fF K n) fa_T K n (fJX K n) ag_ruB6 := by
  refine aGho_of ⟨rfl, rfl⟩ ?_
  intro p σ ρ hH hX hA hM
  have hG := aAG_of hA.1 (fun i e v he hv => (hA.2 i e v he hv).1)
  clear hA
  obtain ⟨v0, v1, v2, v3, rfl, g0, g1, g2, g3⟩ := fA_4 hG
  clear hG
  obtain ⟨x0, rfl, b0, d0⟩ := fG_ref (by decide) g0
  obtain ⟨x1, rfl, b1, d1⟩ := aG_int g1
  dsimp only at b1 d1
  obtain ⟨x2, rfl, b2, d2⟩ := aG_int g2
  dsimp only at b2 d2
  obtain ⟨x3, rfl, b3, d3⟩ := fG_ref (by decide) g3
  obtain ⟨m1, m2, m3, m4⟩ := hM
  obtain ⟨a0, c0, fs0, w0, e1, s0, t0, e4⟩ := m1 (0, 0, 3) (List.mem_of_getElem? (i := 0) rfl)
  obtain rfl : x0 = a0 := Sum.inl.inj (Option.some.inj (Sum.inr.inj (Sum.inr.inj (Option.some.inj (show some (fR x0) = some _ from e1)))))
  obtain rfl : fR x3 = w0 := Option.some.inj (show some (fR x3) = some _ from e4)
  clear e1 e4
  have f0 : fB K n p 28 [fR x0, fI x1] σ := by
    obtain ⟨w, e6, e7⟩ := m4 (450, [0, 1]) (List.mem_of_getElem? (i := 0) rfl)
    obtain rfl : [fR x0, fI x1] = w := Option.some.inj (show some [fR x0, fI x1] = some w from e6)
    exact (fF_b (r := 450) (by decide) rfl).mp e7
  have f1 : fB K n p 39 [fI x1, fI x2] σ := by
    obtain ⟨w, e6, e7⟩ := m4 (626, [1, 2]) (List.mem_of_getElem? (i := 1) rfl)
    obtain rfl : [fI x1, fI x2] = w := Option.some.inj (show some [fI x1, fI x2] = some w from e6)
    exact (fF_b (r := 626) (by decide) rfl).mp e7
  clear m1 m2 m3 m4
  have q0 : fB K n p 1 [fR x0] (jup σ x3 (jsto (σ x3) x1.toNatClampNeg x2)) := by
    obtain ⟨a, s, e, ⟨v, h0⟩, hg⟩ := f0
    cases e
    obtain ⟨s, w, e, hc⟩ := f1
    cases e
    refine ⟨x0, rfl, fAt_cg (fAt_st h0 s0 t0) ?_, hg⟩
    intro i hi
    by_cases e1 : i = x1.toNatClampNeg
    · unfold upd
      rw [if_pos e1, e1]
      exact hc.symm
    · unfold upd
      rw [if_neg e1, if_neg e1]
  refine ⟨p, fun _ => rfl, ⟨fun q h => (by cases h), fun q h => (by cases h), ?_, ?_⟩, [], List.mem_cons_self, fun f h => (by cases h)⟩
  · exact fun f h => by cases h
  · exact (aAllc ⟨_, rfl, fF_p (r := 17) (by decide) (by decide) rfl q0⟩ (fun f h => by cases h))
theorem rw_ruLLeSI {K : Nat → Nat} {n : Nat} : aGho (fF K n) fa_T K n (fJX K n) ag_ruLLeSI := by
  refine aGho_of ⟨rfl, rfl⟩ ?_
  intro p σ ρ hH hX hA hM
  have hG := aAG_of hA.1 (fun i e v he hv => (hA.2 i e v he hv).1)
  clear hA
  obtain ⟨v0, v1, rfl, g0, g1⟩ := fA_2 hG
  clear hG
  obtain ⟨x0, rfl, b0, d0⟩ := fG_ref (by decide) g0
  obtain ⟨x1, rfl, b1, d1⟩ := aG_int g1
  dsimp only at b1 d1
  obtain ⟨m1, m2, m3, m4⟩ := hM
  clear m1 m2 m3 m4
  have q0 : fB K n p 2 [fR x0, fI x1, fI x1] σ := by
    obtain ⟨g, h1⟩ := fRow hH b0 d0 rfl (by decide)
    exact ⟨x0, x1, x1, rfl, b0, by unfold fRw; omega, _, g, h1, fun k hk => by dsimp only at hk; omega⟩
  refine ⟨p, fun _ => rfl, ⟨fun q h => (by cases h), fun q h => (by cases h), ?_, ?_⟩, [], List.mem_cons_self, fun f h => (by cases h)⟩
  · exact fun f h => by cases h
  · exact (aAllc ⟨_, rfl, (fF_b (r := 35) (by decide) rfl).mpr q0⟩ (fun f h => by cases h))
theorem rw_ruLMrSI {K : Nat → Nat} {n : Nat} : aGho (fF K n) fa_T K n (fJX K n) ag_ruLMrSI := by
  refine aGho_of ⟨rfl, rfl⟩ ?_
  intro p σ ρ hH hX hA hM
  have hG := aAG_of hA.1 (fun i e v he hv => (hA.2 i e v he hv).1)
  clear hA
  obtain ⟨v0, v1, v2, v3, v4, rfl, g0, g1, g2, g3, g4⟩ := fA_5 hG
  clear hG
  obtain ⟨x0, rfl, b0, d0⟩ := fG_ref (by decide) g0
  obtain ⟨x1, rfl, b1, d1⟩ := aG_int g1
  dsimp only at b1 d1
  obtain ⟨x2, rfl, b2, d2⟩ := aG_int g2
  dsimp only at b2 d2
  obtain ⟨x3, rfl, b3, d3⟩ := aG_int g3
  dsimp only at b3 d3
  obtain ⟨x4, rfl, b4, d4⟩ := aG_int g4
  dsimp only at b4 d4
  obtain ⟨m1, m2, m3, m4⟩ := hM
  obtain ⟨a, mc0, ty0, gc0, ic0, e1, sc0, jc0, e4, e5⟩ := m2 (0, ([(1, 1)], 0), 4) (List.mem_of_getElem? (i := 0) rfl)
  obtain rfl : x0 = a := Sum.inl.inj (Option.some.inj (Sum.inr.inj (Sum.inr.inj (Option.some.inj (show some (fR x0) = some _ from e1)))))
  obtain ⟨gc0, rfl⟩ : ∃ g, gc0 = .inl g := by
    rcases gc0 with g | g
    · exact ⟨g, rfl⟩
    · exact absurd (show some (fI x4) = some (.inr (.inl (g ic0))) from e5) (fun h => by cases h)
  have sc0 : σ x0 = .inl (ty0, mc0, .inl gc0) := sc0
  have ec0 : x4 = gc0 ic0 := Sum.inl.inj (Option.some.inj (show some (fI x4) = some _ from e5))
  have kc0 : (ic0 : Int) = (1 * x1.toInt + 0) + 0 := by
    obtain ⟨z, e6, e7⟩ := e4
    obtain rfl : (1 * x1.toInt + 0) = z := Option.some.inj (show some (1 * x1.toInt + 0) = some z from e6)
    exact e7
  clear e1 e4 e5
  have l0 : 0 ≤ (1 * x2.toInt + (-1 * x1.toInt + 0)) + -1 := by
    obtain ⟨z, e6, e7⟩ := m3 ([(2, 1), (1, -1)], -1) (List.mem_of_getElem? (i := 0) rfl)
    obtain rfl : (1 * x2.toInt + (-1 * x1.toInt + 0)) = z := Option.some.inj (show some (1 * x2.toInt + (-1 * x1.toInt + 0)) = some z from e6)
    exact e7
  have f0 : fB K n p 26 [fR x0, fI x1, fI x2, fI x3] σ := by
    obtain ⟨w, e6, e7⟩ := m4 (420, [0, 1, 2, 3]) (List.mem_of_getElem? (i := 0) rfl)
    obtain rfl : [fR x0, fI x1, fI x2, fI x3] = w := Option.some.inj (show some [fR x0, fI x1, fI x2, fI x3] = some w from e6)
    exact (fF_b (r := 420) (by decide) rfl).mp e7
  clear m1 m2 m3 m4
  have q0 : fB K n p 30 [fI x4, fI x3] σ := by
    obtain ⟨a, lo, hi, s, e, h1, h2, m, g, h3, h4⟩ := f0
    cases e
    rw [h3] at sc0
    cases sc0
    have h5 := h4 ic0 (by dsimp only; omega)
    rw [← ec0] at h5
    exact ⟨x4, x3, rfl, h5⟩
  refine ⟨p, fun _ => rfl, ⟨fun q h => (by cases h), fun q h => (by cases h), ?_, ?_⟩, [], List.mem_cons_self, fun f h => (by cases h)⟩
  · exact fun f h => by cases h
  · exact (aAllc ⟨_, rfl, (fF_b (r := 482) (by decide) rfl).mpr q0⟩ (fun f h => by cases h))
theorem rw_ruKSSI {K : Nat → Nat} {n : Nat} : aGho (fF K n) fa_T K n (fJX K n) ag_ruKSSI := by
  refine aGho_of ⟨rfl, rfl⟩ ?_
  intro p σ ρ hH hX hA hM
  have hG := aAG_of hA.1 (fun i e v he hv => (hA.2 i e v he hv).1)
  clear hA
  obtain ⟨v0, v1, v2, v3, v4, v5, v6, rfl, g0, g1, g2, g3, g4, g5, g6⟩ := fA_7 hG
  clear hG
  obtain ⟨x0, rfl, b0, d0⟩ := fG_ref (by decide) g0
  obtain ⟨x1, rfl, b1, d1⟩ := aG_int g1
  dsimp only at b1 d1
  obtain ⟨x2, rfl, b2, d2⟩ := aG_int g2
  dsimp only at b2 d2
  obtain ⟨x3, rfl, b3, d3⟩ := aG_int g3
  dsimp only at b3 d3
  obtain ⟨x4, rfl, b4, d4⟩ := aG_int g4
  dsimp only at b4 d4
  obtain ⟨x5, rfl, b5, d5⟩ := aG_int g5
  dsimp only at b5 d5
  obtain ⟨x6, rfl, b6, d6⟩ := aG_int g6
  dsimp only at b6 d6
  obtain ⟨m1, m2, m3, m4⟩ := hM
  have l0 : 0 ≤ (1 * x5.toInt + (-1 * x1.toInt + 0)) + 0 := by
    obtain ⟨z, e6, e7⟩ := m3 ([(5, 1), (1, -1)], 0) (List.mem_of_getElem? (i := 0) rfl)
    obtain rfl : (1 * x5.toInt + (-1 * x1.toInt + 0)) = z := Option.some.inj (show some (1 * x5.toInt + (-1 * x1.toInt + 0)) = some z from e6)
    exact e7
  have l1 : 0 ≤ (1 * x1.toInt + (-1 * x3.toInt + 0)) + 0 := by
    obtain ⟨z, e6, e7⟩ := m3 ([(1, 1), (3, -1)], 0) (List.mem_of_getElem? (i := 1) rfl)
    obtain rfl : (1 * x1.toInt + (-1 * x3.toInt + 0)) = z := Option.some.inj (show some (1 * x1.toInt + (-1 * x3.toInt + 0)) = some z from e6)
    exact e7
  have f0 : fB K n p 2 [fR x0, fI x3, fI x1] σ := by
    obtain ⟨w, e6, e7⟩ := m4 (35, [0, 3, 1]) (List.mem_of_getElem? (i := 0) rfl)
    obtain rfl : [fR x0, fI x3, fI x1] = w := Option.some.inj (show some [fR x0, fI x3, fI x1] = some w from e6)
    exact (fF_b (r := 35) (by decide) rfl).mp e7
  have f1 : fB K n p 30 [fI x2, fI x4] σ := by
    obtain ⟨w, e6, e7⟩ := m4 (482, [2, 4]) (List.mem_of_getElem? (i := 1) rfl)
    obtain rfl : [fI x2, fI x4] = w := Option.some.inj (show some [fI x2, fI x4] = some w from e6)
    exact (fF_b (r := 482) (by decide) rfl).mp e7
  have f2 : fB K n p 26 [fR x0, fI x5, fI x6, fI x4] σ := by
    obtain ⟨w, e6, e7⟩ := m4 (420, [0, 5, 6, 4]) (List.mem_of_getElem? (i := 2) rfl)
    obtain rfl : [fR x0, fI x5, fI x6, fI x4] = w := Option.some.inj (show some [fR x0, fI x5, fI x6, fI x4] = some w from e6)
    exact (fF_b (r := 420) (by decide) rfl).mp e7
  clear m1 m2 m3 m4
  have q0 : fB K n p 32 [fR x0, fI x3, fI x1] (jup σ x0 (jsto (σ x0) x1.toNatClampNeg x2)) := by
    obtain ⟨a, lo, hi, e, h0⟩ := f0
    cases e
    obtain ⟨m, s, e, h1⟩ := f1
    cases e
    obtain ⟨a, lo, hi, s, e, h2⟩ := f2
    cases e
    refine ⟨x0, x3, x1, rfl, ?_⟩
    refine fLl_st h0 (fun _ => h1.1) (fun k hk h9 => ?_)
    rw [fNc] at hk
    omega
  have q1 : fB K n p 33 [fR x0, fI x5, fI x6, fI x4] (jup σ x0 (jsto (σ x0) x1.toNatClampNeg x2)) := by
    obtain ⟨a, lo, hi, e, h0⟩ := f0
    cases e
    obtain ⟨m, s, e, h1⟩ := f1
    cases e
    obtain ⟨a, lo, hi, s, e, h2⟩ := f2
    cases e
    refine ⟨x0, x5, x6, x4, rfl, ?_⟩
    refine fLl_st h2 (fun h9 => ?_) (fun k hk h9 => ?_)
    · exfalso
      rw [fNc] at h9
      omega
    · omega
  refine ⟨p, fun _ => rfl, ⟨fun q h => (by cases h), fun q h => (by cases h), ?_, ?_⟩, [], List.mem_cons_self, fun f h => (by cases h)⟩
  · exact fun f h => by cases h
  · exact (aAllc ⟨_, rfl, fF_p (r := 515) (by decide) (by decide) rfl q0⟩ (aAllc ⟨_, rfl, fF_p (r := 532) (by decide) (by decide) rfl q1⟩ (fun f h => by cases h)))
theorem rw_ruKnSI {K : Nat → Nat} {n : Nat} : aGho (fF K n) fa_T K n (fJX K n) ag_ruKnSI := by
  refine aGho_of ⟨rfl, rfl⟩ ?_
  intro p σ ρ hH hX hA hM
  have hG := aAG_of hA.1 (fun i e v he hv => (hA.2 i e v he hv).1)
  clear hA
  obtain ⟨v0, v1, v2, v3, rfl, g0, g1, g2, g3⟩ := fA_4 hG
  clear hG
  obtain ⟨x0, rfl, b0, d0⟩ := fG_ref (by decide) g0
  obtain ⟨x1, rfl, b1, d1⟩ := aG_int g1
  dsimp only at b1 d1
  obtain ⟨x2, rfl, b2, d2⟩ := aG_int g2
  dsimp only at b2 d2
  obtain ⟨x3, rfl, b3, d3⟩ := aG_int g3
  dsimp only at b3 d3
  obtain ⟨m1, m2, m3, m4⟩ := hM
  have l0 : 0 ≤ (1 * x3.toInt + (-1 * x2.toInt + 0)) + -1 := by
    obtain ⟨z, e6, e7⟩ := m3 ([(3, 1), (2, -1)], -1) (List.mem_of_getElem? (i := 0) rfl)
    obtain rfl : (1 * x3.toInt + (-1 * x2.toInt + 0)) = z := Option.some.inj (show some (1 * x3.toInt + (-1 * x2.toInt + 0)) = some z from e6)
    exact e7
  have l1 : 0 ≤ (-1 * x3.toInt + (1 * x2.toInt + 0)) + 1 := by
    obtain ⟨z, e6, e7⟩ := m3 ([(3, -1), (2, 1)], 1) (List.mem_of_getElem? (i := 1) rfl)
    obtain rfl : (-1 * x3.toInt + (1 * x2.toInt + 0)) = z := Option.some.inj (show some (-1 * x3.toInt + (1 * x2.toInt + 0)) = some z from e6)
    exact e7
  have f0 : fB K n p 32 [fR x0, fI x1, fI x2] σ := by
    obtain ⟨w, e6, e7⟩ := m4 (515, [0, 1, 2]) (List.mem_of_getElem? (i := 0) rfl)
    obtain rfl : [fR x0, fI x1, fI x2] = w := Option.some.inj (show some [fR x0, fI x1, fI x2] = some w from e6)
    exact (fF_b (r := 515) (by decide) rfl).mp e7
  clear m1 m2 m3 m4
  have q0 : fB K n p 2 [fR x0, fI x1, fI x3] σ := by
    obtain ⟨a, lo, hi, e, h1, h2, m, g, h3, h4⟩ := f0
    cases e
    exact ⟨x0, x1, x3, rfl, h1, h2, m, g, h3, fun k hk => h4 k (by dsimp only at hk ⊢; omega)⟩
  refine ⟨p, fun _ => rfl, ⟨fun q h => (by cases h), fun q h => (by cases h), ?_, ?_⟩, [], List.mem_cons_self, fun f h => (by cases h)⟩
  · exact fun f h => by cases h
  · exact (aAllc ⟨_, rfl, (fF_b (r := 35) (by decide) rfl).mpr q0⟩ (fun f h => by cases h))
theorem rw_ruZnSI {K : Nat → Nat} {n : Nat} : aGho (fF K n) fa_T K n (fJX K n) ag_ruZnSI := by
  refine aGho_of ⟨rfl, rfl⟩ ?_
  intro p σ ρ hH hX hA hM
  have hG := aAG_of hA.1 (fun i e v he hv => (hA.2 i e v he hv).1)
  clear hA
  obtain ⟨v0, v1, v2, v3, v4, rfl, g0, g1, g2, g3, g4⟩ := fA_5 hG
  clear hG
  obtain ⟨x0, rfl, b0, d0⟩ := fG_ref (by decide) g0
  obtain ⟨x1, rfl, b1, d1⟩ := aG_int g1
  dsimp only at b1 d1
  obtain ⟨x2, rfl, b2, d2⟩ := aG_int g2
  dsimp only at b2 d2
  obtain ⟨x3, rfl, b3, d3⟩ := aG_int g3
  dsimp only at b3 d3
  obtain ⟨x4, rfl, b4, d4⟩ := aG_int g4
  dsimp only at b4 d4
  obtain ⟨m1, m2, m3, m4⟩ := hM
  have l0 : 0 ≤ (1 * x4.toInt + (-1 * x1.toInt + 0)) + -1 := by
    obtain ⟨z, e6, e7⟩ := m3 ([(4, 1), (1, -1)], -1) (List.mem_of_getElem? (i := 0) rfl)
    obtain rfl : (1 * x4.toInt + (-1 * x1.toInt + 0)) = z := Option.some.inj (show some (1 * x4.toInt + (-1 * x1.toInt + 0)) = some z from e6)
    exact e7
  have l1 : 0 ≤ (-1 * x4.toInt + (1 * x1.toInt + 0)) + 1 := by
    obtain ⟨z, e6, e7⟩ := m3 ([(4, -1), (1, 1)], 1) (List.mem_of_getElem? (i := 1) rfl)
    obtain rfl : (-1 * x4.toInt + (1 * x1.toInt + 0)) = z := Option.some.inj (show some (-1 * x4.toInt + (1 * x1.toInt + 0)) = some z from e6)
    exact e7
  have f0 : fB K n p 33 [fR x0, fI x1, fI x2, fI x3] σ := by
    obtain ⟨w, e6, e7⟩ := m4 (532, [0, 1, 2, 3]) (List.mem_of_getElem? (i := 0) rfl)
    obtain rfl : [fR x0, fI x1, fI x2, fI x3] = w := Option.some.inj (show some [fR x0, fI x1, fI x2, fI x3] = some w from e6)
    exact (fF_b (r := 532) (by decide) rfl).mp e7
  clear m1 m2 m3 m4
  have q0 : fB K n p 26 [fR x0, fI x4, fI x2, fI x3] σ := by
    obtain ⟨a, lo, hi, s, e, h1, h2, m, g, h3, h4⟩ := f0
    cases e
    exact ⟨x0, x4, x2, x3, rfl, h1, h2, m, g, h3, fun k hk => h4 k (by dsimp only at hk ⊢; omega)⟩
  refine ⟨p, fun _ => rfl, ⟨fun q h => (by cases h), fun q h => (by cases h), ?_, ?_⟩, [], List.mem_cons_self, fun f h => (by cases h)⟩
  · exact fun f h => by cases h
  · exact (aAllc ⟨_, rfl, (fF_b (r := 420) (by decide) rfl).mpr q0⟩ (fun f h => by cases h))
theorem rw_ruLwSI {K : Nat → Nat} {n : Nat} : aGho (fF K n) fa_T K n (fJX K n) ag_ruLwSI := by
  refine aGho_of ⟨rfl, rfl⟩ ?_
  intro p σ ρ hH hX hA hM
  have hG := aAG_of hA.1 (fun i e v he hv => (hA.2 i e v he hv).1)
  clear hA
  obtain ⟨v0, v1, v2, v3, v4, rfl, g0, g1, g2, g3, g4⟩ := fA_5 hG
  clear hG
  obtain ⟨x0, rfl, b0, d0⟩ := fG_ref (by decide) g0
  obtain ⟨x1, rfl, b1, d1⟩ := aG_int g1
  dsimp only at b1 d1
  obtain ⟨x2, rfl, b2, d2⟩ := aG_int g2
  dsimp only at b2 d2
  obtain ⟨x3, rfl, b3, d3⟩ := aG_int g3
  dsimp only at b3 d3
  obtain ⟨x4, rfl, b4, d4⟩ := aG_int g4
  dsimp only at b4 d4
  obtain ⟨m1, m2, m3, m4⟩ := hM
  have l0 : 0 ≤ (1 * x4.toInt + (-1 * x1.toInt + 0)) + 0 := by
    obtain ⟨z, e6, e7⟩ := m3 ([(4, 1), (1, -1)], 0) (List.mem_of_getElem? (i := 0) rfl)
    obtain rfl : (1 * x4.toInt + (-1 * x1.toInt + 0)) = z := Option.some.inj (show some (1 * x4.toInt + (-1 * x1.toInt + 0)) = some z from e6)
    exact e7
  have f0 : fB K n p 26 [fR x0, fI x1, fI x2, fI x3] σ := by
    obtain ⟨w, e6, e7⟩ := m4 (420, [0, 1, 2, 3]) (List.mem_of_getElem? (i := 0) rfl)
    obtain rfl : [fR x0, fI x1, fI x2, fI x3] = w := Option.some.inj (show some [fR x0, fI x1, fI x2, fI x3] = some w from e6)
    exact (fF_b (r := 420) (by decide) rfl).mp e7
  clear m1 m2 m3 m4
  have q0 : fB K n p 26 [fR x0, fI x4, fI x2, fI x3] σ := by
    obtain ⟨a, lo, hi, s, e, h1, h2, m, g, h3, h4⟩ := f0
    cases e
    exact ⟨x0, x4, x2, x3, rfl, h1, h2, m, g, h3, fun k hk => h4 k (by dsimp only at hk ⊢; omega)⟩
  refine ⟨p, fun _ => rfl, ⟨fun q h => (by cases h), fun q h => (by cases h), ?_, ?_⟩, [], List.mem_cons_self, fun f h => (by cases h)⟩
  · exact fun f h => by cases h
  · exact (aAllc ⟨_, rfl, (fF_b (r := 420) (by decide) rfl).mpr q0⟩ (fun f h => by cases h))
theorem rw_ruLLeSE {K : Nat → Nat} {n : Nat} : aGho (fF K n) fa_T K n (fJX K n) ag_ruLLeSE := by
  refine aGho_of ⟨rfl, rfl⟩ ?_
  intro p σ ρ hH hX hA hM
  have hG := aAG_of hA.1 (fun i e v he hv => (hA.2 i e v he hv).1)
  clear hA
  obtain ⟨v0, v1, rfl, g0, g1⟩ := fA_2 hG
  clear hG
  obtain ⟨x0, rfl, b0, d0⟩ := fG_ref (by decide) g0
  obtain ⟨x1, rfl, b1, d1⟩ := aG_int g1
  dsimp only at b1 d1
  obtain ⟨m1, m2, m3, m4⟩ := hM
  clear m1 m2 m3 m4
  have q0 : fB K n p 2 [fR x0, fI x1, fI x1] σ := by
    obtain ⟨g, h1⟩ := fRow hH b0 d0 rfl (by decide)
    exact ⟨x0, x1, x1, rfl, b0, by unfold fRw; omega, _, g, h1, fun k hk => by dsimp only at hk; omega⟩
  refine ⟨p, fun _ => rfl, ⟨fun q h => (by cases h), fun q h => (by cases h), ?_, ?_⟩, [], List.mem_cons_self, fun f h => (by cases h)⟩
  · exact fun f h => by cases h
  · exact (aAllc ⟨_, rfl, (fF_b (r := 35) (by decide) rfl).mpr q0⟩ (fun f h => by cases h))
theorem rw_ruLMrSE {K : Nat → Nat} {n : Nat} : aGho (fF K n) fa_T K n (fJX K n) ag_ruLMrSE := by
  refine aGho_of ⟨rfl, rfl⟩ ?_
  intro p σ ρ hH hX hA hM
  have hG := aAG_of hA.1 (fun i e v he hv => (hA.2 i e v he hv).1)
  clear hA
  obtain ⟨v0, v1, v2, v3, v4, rfl, g0, g1, g2, g3, g4⟩ := fA_5 hG
  clear hG
  obtain ⟨x0, rfl, b0, d0⟩ := fG_ref (by decide) g0
  obtain ⟨x1, rfl, b1, d1⟩ := aG_int g1
  dsimp only at b1 d1
  obtain ⟨x2, rfl, b2, d2⟩ := aG_int g2
  dsimp only at b2 d2
  obtain ⟨x3, rfl, b3, d3⟩ := aG_int g3
  dsimp only at b3 d3
  obtain ⟨x4, rfl, b4, d4⟩ := aG_int g4
  dsimp only at b4 d4
  obtain ⟨m1, m2, m3, m4⟩ := hM
  obtain ⟨a, mc0, ty0, gc0, ic0, e1, sc0, jc0, e4, e5⟩ := m2 (0, ([(1, 1)], 0), 4) (List.mem_of_getElem? (i := 0) rfl)
  obtain rfl : x0 = a := Sum.inl.inj (Option.some.inj (Sum.inr.inj (Sum.inr.inj (Option.some.inj (show some (fR x0) = some _ from e1)))))
  obtain ⟨gc0, rfl⟩ : ∃ g, gc0 = .inl g := by
    rcases gc0 with g | g
    · exact ⟨g, rfl⟩
    · exact absurd (show some (fI x4) = some (.inr (.inl (g ic0))) from e5) (fun h => by cases h)
  have sc0 : σ x0 = .inl (ty0, mc0, .inl gc0) := sc0
  have ec0 : x4 = gc0 ic0 := Sum.inl.inj (Option.some.inj (show some (fI x4) = some _ from e5))
  have kc0 : (ic0 : Int) = (1 * x1.toInt + 0) + 0 := by
    obtain ⟨z, e6, e7⟩ := e4
    obtain rfl : (1 * x1.toInt + 0) = z := Option.some.inj (show some (1 * x1.toInt + 0) = some z from e6)
    exact e7
  clear e1 e4 e5
  have l0 : 0 ≤ (1 * x2.toInt + (-1 * x1.toInt + 0)) + -1 := by
    obtain ⟨z, e6, e7⟩ := m3 ([(2, 1), (1, -1)], -1) (List.mem_of_getElem? (i := 0) rfl)
    obtain rfl : (1 * x2.toInt + (-1 * x1.toInt + 0)) = z := Option.some.inj (show some (1 * x2.toInt + (-1 * x1.toInt + 0)) = some z from e6)
    exact e7
  have f0 : fB K n p 26 [fR x0, fI x1, fI x2, fI x3] σ := by
    obtain ⟨w, e6, e7⟩ := m4 (420, [0, 1, 2, 3]) (List.mem_of_getElem? (i := 0) rfl)
    obtain rfl : [fR x0, fI x1, fI x2, fI x3] = w := Option.some.inj (show some [fR x0, fI x1, fI x2, fI x3] = some w from e6)
    exact (fF_b (r := 420) (by decide) rfl).mp e7
  clear m1 m2 m3 m4
  have q0 : fB K n p 30 [fI x4, fI x3] σ := by
    obtain ⟨a, lo, hi, s, e, h1, h2, m, g, h3, h4⟩ := f0
    cases e
    rw [h3] at sc0
    cases sc0
    have h5 := h4 ic0 (by dsimp only; omega)
    rw [← ec0] at h5
    exact ⟨x4, x3, rfl, h5⟩
  refine ⟨p, fun _ => rfl, ⟨fun q h => (by cases h), fun q h => (by cases h), ?_, ?_⟩, [], List.mem_cons_self, fun f h => (by cases h)⟩
  · exact fun f h => by cases h
  · exact (aAllc ⟨_, rfl, (fF_b (r := 482) (by decide) rfl).mpr q0⟩ (fun f h => by cases h))
theorem rw_ruKSSE {K : Nat → Nat} {n : Nat} : aGho (fF K n) fa_T K n (fJX K n) ag_ruKSSE := by
  refine aGho_of ⟨rfl, rfl⟩ ?_
  intro p σ ρ hH hX hA hM
  have hG := aAG_of hA.1 (fun i e v he hv => (hA.2 i e v he hv).1)
  clear hA
  obtain ⟨v0, v1, v2, v3, v4, v5, v6, rfl, g0, g1, g2, g3, g4, g5, g6⟩ := fA_7 hG
  clear hG
  obtain ⟨x0, rfl, b0, d0⟩ := fG_ref (by decide) g0
  obtain ⟨x1, rfl, b1, d1⟩ := aG_int g1
  dsimp only at b1 d1
  obtain ⟨x2, rfl, b2, d2⟩ := aG_int g2
  dsimp only at b2 d2
  obtain ⟨x3, rfl, b3, d3⟩ := aG_int g3
  dsimp only at b3 d3
  obtain ⟨x4, rfl, b4, d4⟩ := aG_int g4
  dsimp only at b4 d4
  obtain ⟨x5, rfl, b5, d5⟩ := aG_int g5
  dsimp only at b5 d5
  obtain ⟨x6, rfl, b6, d6⟩ := aG_int g6
  dsimp only at b6 d6
  obtain ⟨m1, m2, m3, m4⟩ := hM
  have l0 : 0 ≤ (1 * x5.toInt + (-1 * x1.toInt + 0)) + 0 := by
    obtain ⟨z, e6, e7⟩ := m3 ([(5, 1), (1, -1)], 0) (List.mem_of_getElem? (i := 0) rfl)
    obtain rfl : (1 * x5.toInt + (-1 * x1.toInt + 0)) = z := Option.some.inj (show some (1 * x5.toInt + (-1 * x1.toInt + 0)) = some z from e6)
    exact e7
  have l1 : 0 ≤ (1 * x1.toInt + (-1 * x3.toInt + 0)) + 0 := by
    obtain ⟨z, e6, e7⟩ := m3 ([(1, 1), (3, -1)], 0) (List.mem_of_getElem? (i := 1) rfl)
    obtain rfl : (1 * x1.toInt + (-1 * x3.toInt + 0)) = z := Option.some.inj (show some (1 * x1.toInt + (-1 * x3.toInt + 0)) = some z from e6)
    exact e7
  have f0 : fB K n p 2 [fR x0, fI x3, fI x1] σ := by
    obtain ⟨w, e6, e7⟩ := m4 (35, [0, 3, 1]) (List.mem_of_getElem? (i := 0) rfl)
    obtain rfl : [fR x0, fI x3, fI x1] = w := Option.some.inj (show some [fR x0, fI x3, fI x1] = some w from e6)
    exact (fF_b (r := 35) (by decide) rfl).mp e7
  have f1 : fB K n p 30 [fI x2, fI x4] σ := by
    obtain ⟨w, e6, e7⟩ := m4 (482, [2, 4]) (List.mem_of_getElem? (i := 1) rfl)
    obtain rfl : [fI x2, fI x4] = w := Option.some.inj (show some [fI x2, fI x4] = some w from e6)
    exact (fF_b (r := 482) (by decide) rfl).mp e7
  have f2 : fB K n p 26 [fR x0, fI x5, fI x6, fI x4] σ := by
    obtain ⟨w, e6, e7⟩ := m4 (420, [0, 5, 6, 4]) (List.mem_of_getElem? (i := 2) rfl)
    obtain rfl : [fR x0, fI x5, fI x6, fI x4] = w := Option.some.inj (show some [fR x0, fI x5, fI x6, fI x4] = some w from e6)
    exact (fF_b (r := 420) (by decide) rfl).mp e7
  clear m1 m2 m3 m4
  have q0 : fB K n p 32 [fR x0, fI x3, fI x1] (jup σ x0 (jsto (σ x0) x1.toNatClampNeg x2)) := by
    obtain ⟨a, lo, hi, e, h0⟩ := f0
    cases e
    obtain ⟨m, s, e, h1⟩ := f1
    cases e
    obtain ⟨a, lo, hi, s, e, h2⟩ := f2
    cases e
    refine ⟨x0, x3, x1, rfl, ?_⟩
    refine fLl_st h0 (fun _ => h1.1) (fun k hk h9 => ?_)
    rw [fNc] at hk
    omega
  have q1 : fB K n p 33 [fR x0, fI x5, fI x6, fI x4] (jup σ x0 (jsto (σ x0) x1.toNatClampNeg x2)) := by
    obtain ⟨a, lo, hi, e, h0⟩ := f0
    cases e
    obtain ⟨m, s, e, h1⟩ := f1
    cases e
    obtain ⟨a, lo, hi, s, e, h2⟩ := f2
    cases e
    refine ⟨x0, x5, x6, x4, rfl, ?_⟩
    refine fLl_st h2 (fun h9 => ?_) (fun k hk h9 => ?_)
    · exfalso
      rw [fNc] at h9
      omega
    · omega
  refine ⟨p, fun _ => rfl, ⟨fun q h => (by cases h), fun q h => (by cases h), ?_, ?_⟩, [], List.mem_cons_self, fun f h => (by cases h)⟩
  · exact fun f h => by cases h
  · exact (aAllc ⟨_, rfl, fF_p (r := 515) (by decide) (by decide) rfl q0⟩ (aAllc ⟨_, rfl, fF_p (r := 532) (by decide) (by decide) rfl q1⟩ (fun f h => by cases h)))
theorem rw_ruKnSE {K : Nat → Nat} {n : Nat} : aGho (fF K n) fa_T K n (fJX K n) ag_ruKnSE := by
  refine aGho_of ⟨rfl, rfl⟩ ?_
  intro p σ ρ hH hX hA hM
  have hG := aAG_of hA.1 (fun i e v he hv => (hA.2 i e v he hv).1)
  clear hA
  obtain ⟨v0, v1, v2, v3, rfl, g0, g1, g2, g3⟩ := fA_4 hG
  clear hG
  obtain ⟨x0, rfl, b0, d0⟩ := fG_ref (by decide) g0
  obtain ⟨x1, rfl, b1, d1⟩ := aG_int g1
  dsimp only at b1 d1
  obtain ⟨x2, rfl, b2, d2⟩ := aG_int g2
  dsimp only at b2 d2
  obtain ⟨x3, rfl, b3, d3⟩ := aG_int g3
  dsimp only at b3 d3
  obtain ⟨m1, m2, m3, m4⟩ := hM
  have l0 : 0 ≤ (1 * x3.toInt + (-1 * x2.toInt + 0)) + -1 := by
    obtain ⟨z, e6, e7⟩ := m3 ([(3, 1), (2, -1)], -1) (List.mem_of_getElem? (i := 0) rfl)
    obtain rfl : (1 * x3.toInt + (-1 * x2.toInt + 0)) = z := Option.some.inj (show some (1 * x3.toInt + (-1 * x2.toInt + 0)) = some z from e6)
    exact e7
  have l1 : 0 ≤ (-1 * x3.toInt + (1 * x2.toInt + 0)) + 1 := by
    obtain ⟨z, e6, e7⟩ := m3 ([(3, -1), (2, 1)], 1) (List.mem_of_getElem? (i := 1) rfl)
    obtain rfl : (-1 * x3.toInt + (1 * x2.toInt + 0)) = z := Option.some.inj (show some (-1 * x3.toInt + (1 * x2.toInt + 0)) = some z from e6)
    exact e7
  have f0 : fB K n p 32 [fR x0, fI x1, fI x2] σ := by
    obtain ⟨w, e6, e7⟩ := m4 (515, [0, 1, 2]) (List.mem_of_getElem? (i := 0) rfl)
    obtain rfl : [fR x0, fI x1, fI x2] = w := Option.some.inj (show some [fR x0, fI x1, fI x2] = some w from e6)
    exact (fF_b (r := 515) (by decide) rfl).mp e7
  clear m1 m2 m3 m4
  have q0 : fB K n p 2 [fR x0, fI x1, fI x3] σ := by
    obtain ⟨a, lo, hi, e, h1, h2, m, g, h3, h4⟩ := f0
    cases e
    exact ⟨x0, x1, x3, rfl, h1, h2, m, g, h3, fun k hk => h4 k (by dsimp only at hk ⊢; omega)⟩
  refine ⟨p, fun _ => rfl, ⟨fun q h => (by cases h), fun q h => (by cases h), ?_, ?_⟩, [], List.mem_cons_self, fun f h => (by cases h)⟩
  · exact fun f h => by cases h
  · exact (aAllc ⟨_, rfl, (fF_b (r := 35) (by decide) rfl).mpr q0⟩ (fun f h => by cases h))
theorem rw_ruZnSE {K : Nat → Nat} {n : Nat} : aGho (fF K n) fa_T K n (fJX K n) ag_ruZnSE := by
  refine aGho_of ⟨rfl, rfl⟩ ?_
  intro p σ ρ hH hX hA hM
  have hG := aAG_of hA.1 (fun i e v he hv => (hA.2 i e v he hv).1)
  clear hA
  obtain ⟨v0, v1, v2, v3, v4, rfl, g0, g1, g2, g3, g4⟩ := fA_5 hG
  clear hG
  obtain ⟨x0, rfl, b0, d0⟩ := fG_ref (by decide) g0
  obtain ⟨x1, rfl, b1, d1⟩ := aG_int g1
  dsimp only at b1 d1
  obtain ⟨x2, rfl, b2, d2⟩ := aG_int g2
  dsimp only at b2 d2
  obtain ⟨x3, rfl, b3, d3⟩ := aG_int g3
  dsimp only at b3 d3
  obtain ⟨x4, rfl, b4, d4⟩ := aG_int g4
  dsimp only at b4 d4
  obtain ⟨m1, m2, m3, m4⟩ := hM
  have l0 : 0 ≤ (1 * x4.toInt + (-1 * x1.toInt + 0)) + -1 := by
    obtain ⟨z, e6, e7⟩ := m3 ([(4, 1), (1, -1)], -1) (List.mem_of_getElem? (i := 0) rfl)
    obtain rfl : (1 * x4.toInt + (-1 * x1.toInt + 0)) = z := Option.some.inj (show some (1 * x4.toInt + (-1 * x1.toInt + 0)) = some z from e6)
    exact e7
  have l1 : 0 ≤ (-1 * x4.toInt + (1 * x1.toInt + 0)) + 1 := by
    obtain ⟨z, e6, e7⟩ := m3 ([(4, -1), (1, 1)], 1) (List.mem_of_getElem? (i := 1) rfl)
    obtain rfl : (-1 * x4.toInt + (1 * x1.toInt + 0)) = z := Option.some.inj (show some (-1 * x4.toInt + (1 * x1.toInt + 0)) = some z from e6)
    exact e7
  have f0 : fB K n p 33 [fR x0, fI x1, fI x2, fI x3] σ := by
    obtain ⟨w, e6, e7⟩ := m4 (532, [0, 1, 2, 3]) (List.mem_of_getElem? (i := 0) rfl)
    obtain rfl : [fR x0, fI x1, fI x2, fI x3] = w := Option.some.inj (show some [fR x0, fI x1, fI x2, fI x3] = some w from e6)
    exact (fF_b (r := 532) (by decide) rfl).mp e7
  clear m1 m2 m3 m4
  have q0 : fB K n p 26 [fR x0, fI x4, fI x2, fI x3] σ := by
    obtain ⟨a, lo, hi, s, e, h1, h2, m, g, h3, h4⟩ := f0
    cases e
    exact ⟨x0, x4, x2, x3, rfl, h1, h2, m, g, h3, fun k hk => h4 k (by dsimp only at hk ⊢; omega)⟩
  refine ⟨p, fun _ => rfl, ⟨fun q h => (by cases h), fun q h => (by cases h), ?_, ?_⟩, [], List.mem_cons_self, fun f h => (by cases h)⟩
  · exact fun f h => by cases h
  · exact (aAllc ⟨_, rfl, (fF_b (r := 420) (by decide) rfl).mpr q0⟩ (fun f h => by cases h))
theorem rw_ruLwSE {K : Nat → Nat} {n : Nat} : aGho (fF K n) fa_T K n (fJX K n) ag_ruLwSE := by
  refine aGho_of ⟨rfl, rfl⟩ ?_
  intro p σ ρ hH hX hA hM
  have hG := aAG_of hA.1 (fun i e v he hv => (hA.2 i e v he hv).1)
  clear hA
  obtain ⟨v0, v1, v2, v3, v4, rfl, g0, g1, g2, g3, g4⟩ := fA_5 hG
  clear hG
  obtain ⟨x0, rfl, b0, d0⟩ := fG_ref (by decide) g0
  obtain ⟨x1, rfl, b1, d1⟩ := aG_int g1
  dsimp only at b1 d1
  obtain ⟨x2, rfl, b2, d2⟩ := aG_int g2
  dsimp only at b2 d2
  obtain ⟨x3, rfl, b3, d3⟩ := aG_int g3
  dsimp only at b3 d3
  obtain ⟨x4, rfl, b4, d4⟩ := aG_int g4
  dsimp only at b4 d4
  obtain ⟨m1, m2, m3, m4⟩ := hM
  have l0 : 0 ≤ (1 * x4.toInt + (-1 * x1.toInt + 0)) + 0 := by
    obtain ⟨z, e6, e7⟩ := m3 ([(4, 1), (1, -1)], 0) (List.mem_of_getElem? (i := 0) rfl)
    obtain rfl : (1 * x4.toInt + (-1 * x1.toInt + 0)) = z := Option.some.inj (show some (1 * x4.toInt + (-1 * x1.toInt + 0)) = some z from e6)
    exact e7
  have f0 : fB K n p 26 [fR x0, fI x1, fI x2, fI x3] σ := by
    obtain ⟨w, e6, e7⟩ := m4 (420, [0, 1, 2, 3]) (List.mem_of_getElem? (i := 0) rfl)
    obtain rfl : [fR x0, fI x1, fI x2, fI x3] = w := Option.some.inj (show some [fR x0, fI x1, fI x2, fI x3] = some w from e6)
    exact (fF_b (r := 420) (by decide) rfl).mp e7
  clear m1 m2 m3 m4
  have q0 : fB K n p 26 [fR x0, fI x4, fI x2, fI x3] σ := by
    obtain ⟨a, lo, hi, s, e, h1, h2, m, g, h3, h4⟩ := f0
    cases e
    exact ⟨x0, x4, x2, x3, rfl, h1, h2, m, g, h3, fun k hk => h4 k (by dsimp only at hk ⊢; omega)⟩
  refine ⟨p, fun _ => rfl, ⟨fun q h => (by cases h), fun q h => (by cases h), ?_, ?_⟩, [], List.mem_cons_self, fun f h => (by cases h)⟩
  · exact fun f h => by cases h
  · exact (aAllc ⟨_, rfl, (fF_b (r := 420) (by decide) rfl).mpr q0⟩ (fun f h => by cases h))
theorem rw_ruLLePR {K : Nat → Nat} {n : Nat} : aGho (fF K n) fa_T K n (fJX K n) ag_ruLLePR := by
  refine aGho_of ⟨rfl, rfl⟩ ?_
  intro p σ ρ hH hX hA hM
  have hG := aAG_of hA.1 (fun i e v he hv => (hA.2 i e v he hv).1)
  clear hA
  obtain ⟨v0, v1, rfl, g0, g1⟩ := fA_2 hG
  clear hG
  obtain ⟨x0, rfl, b0, d0⟩ := fG_ref (by decide) g0
  obtain ⟨x1, rfl, b1, d1⟩ := aG_int g1
  dsimp only at b1 d1
  obtain ⟨m1, m2, m3, m4⟩ := hM
  clear m1 m2 m3 m4
  have q0 : fB K n p 2 [fR x0, fI x1, fI x1] σ := by
    obtain ⟨g, h1⟩ := fRow hH b0 d0 rfl (by decide)
    exact ⟨x0, x1, x1, rfl, b0, by unfold fRw; omega, _, g, h1, fun k hk => by dsimp only at hk; omega⟩
  refine ⟨p, fun _ => rfl, ⟨fun q h => (by cases h), fun q h => (by cases h), ?_, ?_⟩, [], List.mem_cons_self, fun f h => (by cases h)⟩
  · exact fun f h => by cases h
  · exact (aAllc ⟨_, rfl, (fF_b (r := 35) (by decide) rfl).mpr q0⟩ (fun f h => by cases h))
theorem rw_ruLMrPR {K : Nat → Nat} {n : Nat} : aGho (fF K n) fa_T K n (fJX K n) ag_ruLMrPR := by
  refine aGho_of ⟨rfl, rfl⟩ ?_
  intro p σ ρ hH hX hA hM
  have hG := aAG_of hA.1 (fun i e v he hv => (hA.2 i e v he hv).1)
  clear hA
  obtain ⟨v0, v1, v2, v3, v4, rfl, g0, g1, g2, g3, g4⟩ := fA_5 hG
  clear hG
  obtain ⟨x0, rfl, b0, d0⟩ := fG_ref (by decide) g0
  obtain ⟨x1, rfl, b1, d1⟩ := aG_int g1
  dsimp only at b1 d1
  obtain ⟨x2, rfl, b2, d2⟩ := aG_int g2
  dsimp only at b2 d2
  obtain ⟨x3, rfl, b3, d3⟩ := aG_int g3
  dsimp only at b3 d3
  obtain ⟨x4, rfl, b4, d4⟩ := aG_int g4
  dsimp only at b4 d4
  obtain ⟨m1, m2, m3, m4⟩ := hM
  obtain ⟨a, mc0, ty0, gc0, ic0, e1, sc0, jc0, e4, e5⟩ := m2 (0, ([(1, 1)], 0), 4) (List.mem_of_getElem? (i := 0) rfl)
  obtain rfl : x0 = a := Sum.inl.inj (Option.some.inj (Sum.inr.inj (Sum.inr.inj (Option.some.inj (show some (fR x0) = some _ from e1)))))
  obtain ⟨gc0, rfl⟩ : ∃ g, gc0 = .inl g := by
    rcases gc0 with g | g
    · exact ⟨g, rfl⟩
    · exact absurd (show some (fI x4) = some (.inr (.inl (g ic0))) from e5) (fun h => by cases h)
  have sc0 : σ x0 = .inl (ty0, mc0, .inl gc0) := sc0
  have ec0 : x4 = gc0 ic0 := Sum.inl.inj (Option.some.inj (show some (fI x4) = some _ from e5))
  have kc0 : (ic0 : Int) = (1 * x1.toInt + 0) + 0 := by
    obtain ⟨z, e6, e7⟩ := e4
    obtain rfl : (1 * x1.toInt + 0) = z := Option.some.inj (show some (1 * x1.toInt + 0) = some z from e6)
    exact e7
  clear e1 e4 e5
  have l0 : 0 ≤ (1 * x2.toInt + (-1 * x1.toInt + 0)) + -1 := by
    obtain ⟨z, e6, e7⟩ := m3 ([(2, 1), (1, -1)], -1) (List.mem_of_getElem? (i := 0) rfl)
    obtain rfl : (1 * x2.toInt + (-1 * x1.toInt + 0)) = z := Option.some.inj (show some (1 * x2.toInt + (-1 * x1.toInt + 0)) = some z from e6)
    exact e7
  have f0 : fB K n p 26 [fR x0, fI x1, fI x2, fI x3] σ := by
    obtain ⟨w, e6, e7⟩ := m4 (420, [0, 1, 2, 3]) (List.mem_of_getElem? (i := 0) rfl)
    obtain rfl : [fR x0, fI x1, fI x2, fI x3] = w := Option.some.inj (show some [fR x0, fI x1, fI x2, fI x3] = some w from e6)
    exact (fF_b (r := 420) (by decide) rfl).mp e7
  clear m1 m2 m3 m4
  have q0 : fB K n p 30 [fI x4, fI x3] σ := by
    obtain ⟨a, lo, hi, s, e, h1, h2, m, g, h3, h4⟩ := f0
    cases e
    rw [h3] at sc0
    cases sc0
    have h5 := h4 ic0 (by dsimp only; omega)
    rw [← ec0] at h5
    exact ⟨x4, x3, rfl, h5⟩
  refine ⟨p, fun _ => rfl, ⟨fun q h => (by cases h), fun q h => (by cases h), ?_, ?_⟩, [], List.mem_cons_self, fun f h => (by cases h)⟩
  · exact fun f h => by cases h
  · exact (aAllc ⟨_, rfl, (fF_b (r := 482) (by decide) rfl).mpr q0⟩ (fun f h => by cases h))
theorem rw_ruKSPR {K : Nat → Nat} {n : Nat} : aGho (fF K n) fa_T K n (fJX K n) ag_ruKSPR := by
  refine aGho_of ⟨rfl, rfl⟩ ?_
  intro p σ ρ hH hX hA hM
  have hG := aAG_of hA.1 (fun i e v he hv => (hA.2 i e v he hv).1)
  clear hA
  obtain ⟨v0, v1, v2, v3, v4, v5, v6, rfl, g0, g1, g2, g3, g4, g5, g6⟩ := fA_7 hG
  clear hG
  obtain ⟨x0, rfl, b0, d0⟩ := fG_ref (by decide) g0
  obtain ⟨x1, rfl, b1, d1⟩ := aG_int g1
  dsimp only at b1 d1
  obtain ⟨x2, rfl, b2, d2⟩ := aG_int g2
  dsimp only at b2 d2
  obtain ⟨x3, rfl, b3, d3⟩ := aG_int g3
  dsimp only at b3 d3
  obtain ⟨x4, rfl, b4, d4⟩ := aG_int g4
  dsimp only at b4 d4
  obtain ⟨x5, rfl, b5, d5⟩ := aG_int g5
  dsimp only at b5 d5
  obtain ⟨x6, rfl, b6, d6⟩ := aG_int g6
  dsimp only at b6 d6
  obtain ⟨m1, m2, m3, m4⟩ := hM
  have l0 : 0 ≤ (1 * x5.toInt + (-1 * x1.toInt + 0)) + 0 := by
    obtain ⟨z, e6, e7⟩ := m3 ([(5, 1), (1, -1)], 0) (List.mem_of_getElem? (i := 0) rfl)
    obtain rfl : (1 * x5.toInt + (-1 * x1.toInt + 0)) = z := Option.some.inj (show some (1 * x5.toInt + (-1 * x1.toInt + 0)) = some z from e6)
    exact e7
  have l1 : 0 ≤ (1 * x1.toInt + (-1 * x3.toInt + 0)) + 0 := by
    obtain ⟨z, e6, e7⟩ := m3 ([(1, 1), (3, -1)], 0) (List.mem_of_getElem? (i := 1) rfl)
    obtain rfl : (1 * x1.toInt + (-1 * x3.toInt + 0)) = z := Option.some.inj (show some (1 * x1.toInt + (-1 * x3.toInt + 0)) = some z from e6)
    exact e7
  have f0 : fB K n p 2 [fR x0, fI x3, fI x1] σ := by
    obtain ⟨w, e6, e7⟩ := m4 (35, [0, 3, 1]) (List.mem_of_getElem? (i := 0) rfl)
    obtain rfl : [fR x0, fI x3, fI x1] = w := Option.some.inj (show some [fR x0, fI x3, fI x1] = some w from e6)
    exact (fF_b (r := 35) (by decide) rfl).mp e7
  have f1 : fB K n p 30 [fI x2, fI x4] σ := by
    obtain ⟨w, e6, e7⟩ := m4 (482, [2, 4]) (List.mem_of_getElem? (i := 1) rfl)
    obtain rfl : [fI x2, fI x4] = w := Option.some.inj (show some [fI x2, fI x4] = some w from e6)
    exact (fF_b (r := 482) (by decide) rfl).mp e7
  have f2 : fB K n p 26 [fR x0, fI x5, fI x6, fI x4] σ := by
    obtain ⟨w, e6, e7⟩ := m4 (420, [0, 5, 6, 4]) (List.mem_of_getElem? (i := 2) rfl)
    obtain rfl : [fR x0, fI x5, fI x6, fI x4] = w := Option.some.inj (show some [fR x0, fI x5, fI x6, fI x4] = some w from e6)
    exact (fF_b (r := 420) (by decide) rfl).mp e7
  clear m1 m2 m3 m4
  have q0 : fB K n p 32 [fR x0, fI x3, fI x1] (jup σ x0 (jsto (σ x0) x1.toNatClampNeg x2)) := by
    obtain ⟨a, lo, hi, e, h0⟩ := f0
    cases e
    obtain ⟨m, s, e, h1⟩ := f1
    cases e
    obtain ⟨a, lo, hi, s, e, h2⟩ := f2
    cases e
    refine ⟨x0, x3, x1, rfl, ?_⟩
    refine fLl_st h0 (fun _ => h1.1) (fun k hk h9 => ?_)
    rw [fNc] at hk
    omega
  have q1 : fB K n p 33 [fR x0, fI x5, fI x6, fI x4] (jup σ x0 (jsto (σ x0) x1.toNatClampNeg x2)) := by
    obtain ⟨a, lo, hi, e, h0⟩ := f0
    cases e
    obtain ⟨m, s, e, h1⟩ := f1
    cases e
    obtain ⟨a, lo, hi, s, e, h2⟩ := f2
    cases e
    refine ⟨x0, x5, x6, x4, rfl, ?_⟩
    refine fLl_st h2 (fun h9 => ?_) (fun k hk h9 => ?_)
    · exfalso
      rw [fNc] at h9
      omega
    · omega
  refine ⟨p, fun _ => rfl, ⟨fun q h => (by cases h), fun q h => (by cases h), ?_, ?_⟩, [], List.mem_cons_self, fun f h => (by cases h)⟩
  · exact fun f h => by cases h
  · exact (aAllc ⟨_, rfl, fF_p (r := 515) (by decide) (by decide) rfl q0⟩ (aAllc ⟨_, rfl, fF_p (r := 532) (by decide) (by decide) rfl q1⟩ (fun f h => by cases h)))
theorem rw_ruKnPR {K : Nat → Nat} {n : Nat} : aGho (fF K n) fa_T K n (fJX K n) ag_ruKnPR := by
  refine aGho_of ⟨rfl, rfl⟩ ?_
  intro p σ ρ hH hX hA hM
  have hG := aAG_of hA.1 (fun i e v he hv => (hA.2 i e v he hv).1)
  clear hA
  obtain ⟨v0, v1, v2, v3, rfl, g0, g1, g2, g3⟩ := fA_4 hG
  clear hG
  obtain ⟨x0, rfl, b0, d0⟩ := fG_ref (by decide) g0
  obtain ⟨x1, rfl, b1, d1⟩ := aG_int g1
  dsimp only at b1 d1
  obtain ⟨x2, rfl, b2, d2⟩ := aG_int g2
  dsimp only at b2 d2
  obtain ⟨x3, rfl, b3, d3⟩ := aG_int g3
  dsimp only at b3 d3
  obtain ⟨m1, m2, m3, m4⟩ := hM
  have l0 : 0 ≤ (1 * x3.toInt + (-1 * x2.toInt + 0)) + -1 := by
    obtain ⟨z, e6, e7⟩ := m3 ([(3, 1), (2, -1)], -1) (List.mem_of_getElem? (i := 0) rfl)
    obtain rfl : (1 * x3.toInt + (-1 * x2.toInt + 0)) = z := Option.some.inj (show some (1 * x3.toInt + (-1 * x2.toInt + 0)) = some z from e6)
    exact e7
  have l1 : 0 ≤ (-1 * x3.toInt + (1 * x2.toInt + 0)) + 1 := by
    obtain ⟨z, e6, e7⟩ := m3 ([(3, -1), (2, 1)], 1) (List.mem_of_getElem? (i := 1) rfl)
    obtain rfl : (-1 * x3.toInt + (1 * x2.toInt + 0)) = z := Option.some.inj (show some (-1 * x3.toInt + (1 * x2.toInt + 0)) = some z from e6)
    exact e7
  have f0 : fB K n p 32 [fR x0, fI x1, fI x2] σ := by
    obtain ⟨w, e6, e7⟩ := m4 (515, [0, 1, 2]) (List.mem_of_getElem? (i := 0) rfl)
    obtain rfl : [fR x0, fI x1, fI x2] = w := Option.some.inj (show some [fR x0, fI x1, fI x2] = some w from e6)
    exact (fF_b (r := 515) (by decide) rfl).mp e7
  clear m1 m2 m3 m4
  have q0 : fB K n p 2 [fR x0, fI x1, fI x3] σ := by
    obtain ⟨a, lo, hi, e, h1, h2, m, g, h3, h4⟩ := f0
    cases e
    exact ⟨x0, x1, x3, rfl, h1, h2, m, g, h3, fun k hk => h4 k (by dsimp only at hk ⊢; omega)⟩
  refine ⟨p, fun _ => rfl, ⟨fun q h => (by cases h), fun q h => (by cases h), ?_, ?_⟩, [], List.mem_cons_self, fun f h => (by cases h)⟩
  · exact fun f h => by cases h
  · exact (aAllc ⟨_, rfl, (fF_b (r := 35) (by decide) rfl).mpr q0⟩ (fun f h => by cases h))
theorem rw_ruZnPR {K : Nat → Nat} {n : Nat} : aGho (fF K n) fa_T K n (fJX K n) ag_ruZnPR := by
  refine aGho_of ⟨rfl, rfl⟩ ?_
  intro p σ ρ hH hX hA hM
  have hG := aAG_of hA.1 (fun i e v he hv => (hA.2 i e v he hv).1)
  clear hA
  obtain ⟨v0, v1, v2, v3, v4, rfl, g0, g1, g2, g3, g4⟩ := fA_5 hG
  clear hG
  obtain ⟨x0, rfl, b0, d0⟩ := fG_ref (by decide) g0
  obtain ⟨x1, rfl, b1, d1⟩ := aG_int g1
  dsimp only at b1 d1
  obtain ⟨x2, rfl, b2, d2⟩ := aG_int g2
  dsimp only at b2 d2
  obtain ⟨x3, rfl, b3, d3⟩ := aG_int g3
  dsimp only at b3 d3
  obtain ⟨x4, rfl, b4, d4⟩ := aG_int g4
  dsimp only at b4 d4
  obtain ⟨m1, m2, m3, m4⟩ := hM
  have l0 : 0 ≤ (1 * x4.toInt + (-1 * x1.toInt + 0)) + -1 := by
    obtain ⟨z, e6, e7⟩ := m3 ([(4, 1), (1, -1)], -1) (List.mem_of_getElem? (i := 0) rfl)
    obtain rfl : (1 * x4.toInt + (-1 * x1.toInt + 0)) = z := Option.some.inj (show some (1 * x4.toInt + (-1 * x1.toInt + 0)) = some z from e6)
    exact e7
  have l1 : 0 ≤ (-1 * x4.toInt + (1 * x1.toInt + 0)) + 1 := by
    obtain ⟨z, e6, e7⟩ := m3 ([(4, -1), (1, 1)], 1) (List.mem_of_getElem? (i := 1) rfl)
    obtain rfl : (-1 * x4.toInt + (1 * x1.toInt + 0)) = z := Option.some.inj (show some (-1 * x4.toInt + (1 * x1.toInt + 0)) = some z from e6)
    exact e7
  have f0 : fB K n p 33 [fR x0, fI x1, fI x2, fI x3] σ := by
    obtain ⟨w, e6, e7⟩ := m4 (532, [0, 1, 2, 3]) (List.mem_of_getElem? (i := 0) rfl)
    obtain rfl : [fR x0, fI x1, fI x2, fI x3] = w := Option.some.inj (show some [fR x0, fI x1, fI x2, fI x3] = some w from e6)
    exact (fF_b (r := 532) (by decide) rfl).mp e7
  clear m1 m2 m3 m4
  have q0 : fB K n p 26 [fR x0, fI x4, fI x2, fI x3] σ := by
    obtain ⟨a, lo, hi, s, e, h1, h2, m, g, h3, h4⟩ := f0
    cases e
    exact ⟨x0, x4, x2, x3, rfl, h1, h2, m, g, h3, fun k hk => h4 k (by dsimp only at hk ⊢; omega)⟩
  refine ⟨p, fun _ => rfl, ⟨fun q h => (by cases h), fun q h => (by cases h), ?_, ?_⟩, [], List.mem_cons_self, fun f h => (by cases h)⟩
  · exact fun f h => by cases h
  · exact (aAllc ⟨_, rfl, (fF_b (r := 420) (by decide) rfl).mpr q0⟩ (fun f h => by cases h))
theorem rw_ruLwPR {K : Nat → Nat} {n : Nat} : aGho (fF K n) fa_T K n (fJX K n) ag_ruLwPR := by
  refine aGho_of ⟨rfl, rfl⟩ ?_
  intro p σ ρ hH hX hA hM
  have hG := aAG_of hA.1 (fun i e v he hv => (hA.2 i e v he hv).1)
  clear hA
  obtain ⟨v0, v1, v2, v3, v4, rfl, g0, g1, g2, g3, g4⟩ := fA_5 hG
  clear hG
  obtain ⟨x0, rfl, b0, d0⟩ := fG_ref (by decide) g0
  obtain ⟨x1, rfl, b1, d1⟩ := aG_int g1
  dsimp only at b1 d1
  obtain ⟨x2, rfl, b2, d2⟩ := aG_int g2
  dsimp only at b2 d2
  obtain ⟨x3, rfl, b3, d3⟩ := aG_int g3
  dsimp only at b3 d3
  obtain ⟨x4, rfl, b4, d4⟩ := aG_int g4
  dsimp only at b4 d4
  obtain ⟨m1, m2, m3, m4⟩ := hM
  have l0 : 0 ≤ (1 * x4.toInt + (-1 * x1.toInt + 0)) + 0 := by
    obtain ⟨z, e6, e7⟩ := m3 ([(4, 1), (1, -1)], 0) (List.mem_of_getElem? (i := 0) rfl)
    obtain rfl : (1 * x4.toInt + (-1 * x1.toInt + 0)) = z := Option.some.inj (show some (1 * x4.toInt + (-1 * x1.toInt + 0)) = some z from e6)
    exact e7
  have f0 : fB K n p 26 [fR x0, fI x1, fI x2, fI x3] σ := by
    obtain ⟨w, e6, e7⟩ := m4 (420, [0, 1, 2, 3]) (List.mem_of_getElem? (i := 0) rfl)
    obtain rfl : [fR x0, fI x1, fI x2, fI x3] = w := Option.some.inj (show some [fR x0, fI x1, fI x2, fI x3] = some w from e6)
    exact (fF_b (r := 420) (by decide) rfl).mp e7
  clear m1 m2 m3 m4
  have q0 : fB K n p 26 [fR x0, fI x4, fI x2, fI x3] σ := by
    obtain ⟨a, lo, hi, s, e, h1, h2, m, g, h3, h4⟩ := f0
    cases e
    exact ⟨x0, x4, x2, x3, rfl, h1, h2, m, g, h3, fun k hk => h4 k (by dsimp only at hk ⊢; omega)⟩
  refine ⟨p, fun _ => rfl, ⟨fun q h => (by cases h), fun q h => (by cases h), ?_, ?_⟩, [], List.mem_cons_self, fun f h => (by cases h)⟩
  · exact fun f h => by cases h
  · exact (aAllc ⟨_, rfl, (fF_b (r := 420) (by decide) rfl).mpr q0⟩ (fun f h => by cases h))
theorem rw_ruLLeEN {K : Nat → Nat} {n : Nat} : aGho (fF K n) fa_T K n (fJX K n) ag_ruLLeEN := by
  refine aGho_of ⟨rfl, rfl⟩ ?_
  intro p σ ρ hH hX hA hM
  have hG := aAG_of hA.1 (fun i e v he hv => (hA.2 i e v he hv).1)
  clear hA
  obtain ⟨v0, v1, rfl, g0, g1⟩ := fA_2 hG
  clear hG
  obtain ⟨x0, rfl, b0, d0⟩ := fG_ref (by decide) g0
  obtain ⟨x1, rfl, b1, d1⟩ := aG_int g1
  dsimp only at b1 d1
  obtain ⟨m1, m2, m3, m4⟩ := hM
  clear m1 m2 m3 m4
  have q0 : fB K n p 2 [fR x0, fI x1, fI x1] σ := by
    obtain ⟨g, h1⟩ := fRow hH b0 d0 rfl (by decide)
    exact ⟨x0, x1, x1, rfl, b0, by unfold fRw; omega, _, g, h1, fun k hk => by dsimp only at hk; omega⟩
  refine ⟨p, fun _ => rfl, ⟨fun q h => (by cases h), fun q h => (by cases h), ?_, ?_⟩, [], List.mem_cons_self, fun f h => (by cases h)⟩
  · exact fun f h => by cases h
  · exact (aAllc ⟨_, rfl, (fF_b (r := 35) (by decide) rfl).mpr q0⟩ (fun f h => by cases h))
theorem rw_ruLMrEN {K : Nat → Nat} {n : Nat} : aGho (fF K n) fa_T K n (fJX K n) ag_ruLMrEN := by
  refine aGho_of ⟨rfl, rfl⟩ ?_
  intro p σ ρ hH hX hA hM
  have hG := aAG_of hA.1 (fun i e v he hv => (hA.2 i e v he hv).1)
  clear hA
  obtain ⟨v0, v1, v2, v3, v4, rfl, g0, g1, g2, g3, g4⟩ := fA_5 hG
  clear hG
  obtain ⟨x0, rfl, b0, d0⟩ := fG_ref (by decide) g0
  obtain ⟨x1, rfl, b1, d1⟩ := aG_int g1
  dsimp only at b1 d1
  obtain ⟨x2, rfl, b2, d2⟩ := aG_int g2
  dsimp only at b2 d2
  obtain ⟨x3, rfl, b3, d3⟩ := aG_int g3
  dsimp only at b3 d3
  obtain ⟨x4, rfl, b4, d4⟩ := aG_int g4
  dsimp only at b4 d4
  obtain ⟨m1, m2, m3, m4⟩ := hM
  obtain ⟨a, mc0, ty0, gc0, ic0, e1, sc0, jc0, e4, e5⟩ := m2 (0, ([(1, 1)], 0), 4) (List.mem_of_getElem? (i := 0) rfl)
  obtain rfl : x0 = a := Sum.inl.inj (Option.some.inj (Sum.inr.inj (Sum.inr.inj (Option.some.inj (show some (fR x0) = some _ from e1)))))
  obtain ⟨gc0, rfl⟩ : ∃ g, gc0 = .inl g := by
    rcases gc0 with g | g
    · exact ⟨g, rfl⟩
    · exact absurd (show some (fI x4) = some (.inr (.inl (g ic0))) from e5) (fun h => by cases h)
  have sc0 : σ x0 = .inl (ty0, mc0, .inl gc0) := sc0
  have ec0 : x4 = gc0 ic0 := Sum.inl.inj (Option.some.inj (show some (fI x4) = some _ from e5))
  have kc0 : (ic0 : Int) = (1 * x1.toInt + 0) + 0 := by
    obtain ⟨z, e6, e7⟩ := e4
    obtain rfl : (1 * x1.toInt + 0) = z := Option.some.inj (show some (1 * x1.toInt + 0) = some z from e6)
    exact e7
  clear e1 e4 e5
  have l0 : 0 ≤ (1 * x2.toInt + (-1 * x1.toInt + 0)) + -1 := by
    obtain ⟨z, e6, e7⟩ := m3 ([(2, 1), (1, -1)], -1) (List.mem_of_getElem? (i := 0) rfl)
    obtain rfl : (1 * x2.toInt + (-1 * x1.toInt + 0)) = z := Option.some.inj (show some (1 * x2.toInt + (-1 * x1.toInt + 0)) = some z from e6)
    exact e7
  have f0 : fB K n p 26 [fR x0, fI x1, fI x2, fI x3] σ := by
    obtain ⟨w, e6, e7⟩ := m4 (420, [0, 1, 2, 3]) (List.mem_of_getElem? (i := 0) rfl)
    obtain rfl : [fR x0, fI x1, fI x2, fI x3] = w := Option.some.inj (show some [fR x0, fI x1, fI x2, fI x3] = some w from e6)
    exact (fF_b (r := 420) (by decide) rfl).mp e7
  clear m1 m2 m3 m4
  have q0 : fB K n p 30 [fI x4, fI x3] σ := by
    obtain ⟨a, lo, hi, s, e, h1, h2, m, g, h3, h4⟩ := f0
    cases e
    rw [h3] at sc0
    cases sc0
    have h5 := h4 ic0 (by dsimp only; omega)
    rw [← ec0] at h5
    exact ⟨x4, x3, rfl, h5⟩
  refine ⟨p, fun _ => rfl, ⟨fun q h => (by cases h), fun q h => (by cases h), ?_, ?_⟩, [], List.mem_cons_self, fun f h => (by cases h)⟩
  · exact fun f h => by cases h
  · exact (aAllc ⟨_, rfl, (fF_b (r := 482) (by decide) rfl).mpr q0⟩ (fun f h => by cases h))
theorem rw_ruKSEN {K : Nat → Nat} {n : Nat} : aGho (fF K n) fa_T K n (fJX K n) ag_ruKSEN := by
  refine aGho_of ⟨rfl, rfl⟩ ?_
  intro p σ ρ hH hX hA hM
  have hG := aAG_of hA.1 (fun i e v he hv => (hA.2 i e v he hv).1)
  clear hA
  obtain ⟨v0, v1, v2, v3, v4, v5, v6, rfl, g0, g1, g2, g3, g4, g5, g6⟩ := fA_7 hG
  clear hG
  obtain ⟨x0, rfl, b0, d0⟩ := fG_ref (by decide) g0
  obtain ⟨x1, rfl, b1, d1⟩ := aG_int g1
  dsimp only at b1 d1
  obtain ⟨x2, rfl, b2, d2⟩ := aG_int g2
  dsimp only at b2 d2
  obtain ⟨x3, rfl, b3, d3⟩ := aG_int g3
  dsimp only at b3 d3
  obtain ⟨x4, rfl, b4, d4⟩ := aG_int g4
  dsimp only at b4 d4
  obtain ⟨x5, rfl, b5, d5⟩ := aG_int g5
  dsimp only at b5 d5
  obtain ⟨x6, rfl, b6, d6⟩ := aG_int g6
  dsimp only at b6 d6
  obtain ⟨m1, m2, m3, m4⟩ := hM
  have l0 : 0 ≤ (1 * x5.toInt + (-1 * x1.toInt + 0)) + 0 := by
    obtain ⟨z, e6, e7⟩ := m3 ([(5, 1), (1, -1)], 0) (List.mem_of_getElem? (i := 0) rfl)
    obtain rfl : (1 * x5.toInt + (-1 * x1.toInt + 0)) = z := Option.some.inj (show some (1 * x5.toInt + (-1 * x1.toInt + 0)) = some z from e6)
    exact e7
  have l1 : 0 ≤ (1 * x1.toInt + (-1 * x3.toInt + 0)) + 0 := by
    obtain ⟨z, e6, e7⟩ := m3 ([(1, 1), (3, -1)], 0) (List.mem_of_getElem? (i := 1) rfl)
    obtain rfl : (1 * x1.toInt + (-1 * x3.toInt + 0)) = z := Option.some.inj (show some (1 * x1.toInt + (-1 * x3.toInt + 0)) = some z from e6)
    exact e7
  have f0 : fB K n p 2 [fR x0, fI x3, fI x1] σ := by
    obtain ⟨w, e6, e7⟩ := m4 (35, [0, 3, 1]) (List.mem_of_getElem? (i := 0) rfl)
    obtain rfl : [fR x0, fI x3, fI x1] = w := Option.some.inj (show some [fR x0, fI x3, fI x1] = some w from e6)
    exact (fF_b (r := 35) (by decide) rfl).mp e7
  have f1 : fB K n p 30 [fI x2, fI x4] σ := by
    obtain ⟨w, e6, e7⟩ := m4 (482, [2, 4]) (List.mem_of_getElem? (i := 1) rfl)
    obtain rfl : [fI x2, fI x4] = w := Option.some.inj (show some [fI x2, fI x4] = some w from e6)
    exact (fF_b (r := 482) (by decide) rfl).mp e7
  have f2 : fB K n p 26 [fR x0, fI x5, fI x6, fI x4] σ := by
    obtain ⟨w, e6, e7⟩ := m4 (420, [0, 5, 6, 4]) (List.mem_of_getElem? (i := 2) rfl)
    obtain rfl : [fR x0, fI x5, fI x6, fI x4] = w := Option.some.inj (show some [fR x0, fI x5, fI x6, fI x4] = some w from e6)
    exact (fF_b (r := 420) (by decide) rfl).mp e7
  clear m1 m2 m3 m4
  have q0 : fB K n p 32 [fR x0, fI x3, fI x1] (jup σ x0 (jsto (σ x0) x1.toNatClampNeg x2)) := by
    obtain ⟨a, lo, hi, e, h0⟩ := f0
    cases e
    obtain ⟨m, s, e, h1⟩ := f1
    cases e
    obtain ⟨a, lo, hi, s, e, h2⟩ := f2
    cases e
    refine ⟨x0, x3, x1, rfl, ?_⟩
    refine fLl_st h0 (fun _ => h1.1) (fun k hk h9 => ?_)
    rw [fNc] at hk
    omega
  have q1 : fB K n p 33 [fR x0, fI x5, fI x6, fI x4] (jup σ x0 (jsto (σ x0) x1.toNatClampNeg x2)) := by
    obtain ⟨a, lo, hi, e, h0⟩ := f0
    cases e
    obtain ⟨m, s, e, h1⟩ := f1
    cases e
    obtain ⟨a, lo, hi, s, e, h2⟩ := f2
    cases e
    refine ⟨x0, x5, x6, x4, rfl, ?_⟩
    refine fLl_st h2 (fun h9 => ?_) (fun k hk h9 => ?_)
    · exfalso
      rw [fNc] at h9
      omega
    · omega
  refine ⟨p, fun _ => rfl, ⟨fun q h => (by cases h), fun q h => (by cases h), ?_, ?_⟩, [], List.mem_cons_self, fun f h => (by cases h)⟩
  · exact fun f h => by cases h
  · exact (aAllc ⟨_, rfl, fF_p (r := 515) (by decide) (by decide) rfl q0⟩ (aAllc ⟨_, rfl, fF_p (r := 532) (by decide) (by decide) rfl q1⟩ (fun f h => by cases h)))
theorem rw_ruKnEN {K : Nat → Nat} {n : Nat} : aGho (fF K n) fa_T K n (fJX K n) ag_ruKnEN := by
  refine aGho_of ⟨rfl, rfl⟩ ?_
  intro p σ ρ hH hX hA hM
  have hG := aAG_of hA.1 (fun i e v he hv => (hA.2 i e v he hv).1)
  clear hA
  obtain ⟨v0, v1, v2, v3, rfl, g0, g1, g2, g3⟩ := fA_4 hG
  clear hG
  obtain ⟨x0, rfl, b0, d0⟩ := fG_ref (by decide) g0
  obtain ⟨x1, rfl, b1, d1⟩ := aG_int g1
  dsimp only at b1 d1
  obtain ⟨x2, rfl, b2, d2⟩ := aG_int g2
  dsimp only at b2 d2
  obtain ⟨x3, rfl, b3, d3⟩ := aG_int g3
  dsimp only at b3 d3
  obtain ⟨m1, m2, m3, m4⟩ := hM
  have l0 : 0 ≤ (1 * x3.toInt + (-1 * x2.toInt + 0)) + -1 := by
    obtain ⟨z, e6, e7⟩ := m3 ([(3, 1), (2, -1)], -1) (List.mem_of_getElem? (i := 0) rfl)
    obtain rfl : (1 * x3.toInt + (-1 * x2.toInt + 0)) = z := Option.some.inj (show some (1 * x3.toInt + (-1 * x2.toInt + 0)) = some z from e6)
    exact e7
  have l1 : 0 ≤ (-1 * x3.toInt + (1 * x2.toInt + 0)) + 1 := by
    obtain ⟨z, e6, e7⟩ := m3 ([(3, -1), (2, 1)], 1) (List.mem_of_getElem? (i := 1) rfl)
    obtain rfl : (-1 * x3.toInt + (1 * x2.toInt + 0)) = z := Option.some.inj (show some (-1 * x3.toInt + (1 * x2.toInt + 0)) = some z from e6)
    exact e7
  have f0 : fB K n p 32 [fR x0, fI x1, fI x2] σ := by
    obtain ⟨w, e6, e7⟩ := m4 (515, [0, 1, 2]) (List.mem_of_getElem? (i := 0) rfl)
    obtain rfl : [fR x0, fI x1, fI x2] = w := Option.some.inj (show some [fR x0, fI x1, fI x2] = some w from e6)
    exact (fF_b (r := 515) (by decide) rfl).mp e7
  clear m1 m2 m3 m4
  have q0 : fB K n p 2 [fR x0, fI x1, fI x3] σ := by
    obtain ⟨a, lo, hi, e, h1, h2, m, g, h3, h4⟩ := f0
    cases e
    exact ⟨x0, x1, x3, rfl, h1, h2, m, g, h3, fun k hk => h4 k (by dsimp only at hk ⊢; omega)⟩
  refine ⟨p, fun _ => rfl, ⟨fun q h => (by cases h), fun q h => (by cases h), ?_, ?_⟩, [], List.mem_cons_self, fun f h => (by cases h)⟩
  · exact fun f h => by cases h
  · exact (aAllc ⟨_, rfl, (fF_b (r := 35) (by decide) rfl).mpr q0⟩ (fun f h => by cases h))
theorem rw_ruZnEN {K : Nat → Nat} {n : Nat} : aGho (fF K n) fa_T K n (fJX K n) ag_ruZnEN := by
  refine aGho_of ⟨rfl, rfl⟩ ?_
  intro p σ ρ hH hX hA hM
  have hG := aAG_of hA.1 (fun i e v he hv => (hA.2 i e v he hv).1)
  clear hA
  obtain ⟨v0, v1, v2, v3, v4, rfl, g0, g1, g2, g3, g4⟩ := fA_5 hG
  clear hG
  obtain ⟨x0, rfl, b0, d0⟩ := fG_ref (by decide) g0
  obtain ⟨x1, rfl, b1, d1⟩ := aG_int g1
  dsimp only at b1 d1
  obtain ⟨x2, rfl, b2, d2⟩ := aG_int g2
  dsimp only at b2 d2
  obtain ⟨x3, rfl, b3, d3⟩ := aG_int g3
  dsimp only at b3 d3
  obtain ⟨x4, rfl, b4, d4⟩ := aG_int g4
  dsimp only at b4 d4
  obtain ⟨m1, m2, m3, m4⟩ := hM
  have l0 : 0 ≤ (1 * x4.toInt + (-1 * x1.toInt + 0)) + -1 := by
    obtain ⟨z, e6, e7⟩ := m3 ([(4, 1), (1, -1)], -1) (List.mem_of_getElem? (i := 0) rfl)
    obtain rfl : (1 * x4.toInt + (-1 * x1.toInt + 0)) = z := Option.some.inj (show some (1 * x4.toInt + (-1 * x1.toInt + 0)) = some z from e6)
    exact e7
  have l1 : 0 ≤ (-1 * x4.toInt + (1 * x1.toInt + 0)) + 1 := by
    obtain ⟨z, e6, e7⟩ := m3 ([(4, -1), (1, 1)], 1) (List.mem_of_getElem? (i := 1) rfl)
    obtain rfl : (-1 * x4.toInt + (1 * x1.toInt + 0)) = z := Option.some.inj (show some (-1 * x4.toInt + (1 * x1.toInt + 0)) = some z from e6)
    exact e7
  have f0 : fB K n p 33 [fR x0, fI x1, fI x2, fI x3] σ := by
    obtain ⟨w, e6, e7⟩ := m4 (532, [0, 1, 2, 3]) (List.mem_of_getElem? (i := 0) rfl)
    obtain rfl : [fR x0, fI x1, fI x2, fI x3] = w := Option.some.inj (show some [fR x0, fI x1, fI x2, fI x3] = some w from e6)
    exact (fF_b (r := 532) (by decide) rfl).mp e7
  clear m1 m2 m3 m4
  have q0 : fB K n p 26 [fR x0, fI x4, fI x2, fI x3] σ := by
    obtain ⟨a, lo, hi, s, e, h1, h2, m, g, h3, h4⟩ := f0
    cases e
    exact ⟨x0, x4, x2, x3, rfl, h1, h2, m, g, h3, fun k hk => h4 k (by dsimp only at hk ⊢; omega)⟩
  refine ⟨p, fun _ => rfl, ⟨fun q h => (by cases h), fun q h => (by cases h), ?_, ?_⟩, [], List.mem_cons_self, fun f h => (by cases h)⟩
  · exact fun f h => by cases h
  · exact (aAllc ⟨_, rfl, (fF_b (r := 420) (by decide) rfl).mpr q0⟩ (fun f h => by cases h))
theorem rw_ruLwEN {K : Nat → Nat} {n : Nat} : aGho (fF K n) fa_T K n (fJX K n) ag_ruLwEN := by
  refine aGho_of ⟨rfl, rfl⟩ ?_
  intro p σ ρ hH hX hA hM
  have hG := aAG_of hA.1 (fun i e v he hv => (hA.2 i e v he hv).1)
  clear hA
  obtain ⟨v0, v1, v2, v3, v4, rfl, g0, g1, g2, g3, g4⟩ := fA_5 hG
  clear hG
  obtain ⟨x0, rfl, b0, d0⟩ := fG_ref (by decide) g0
  obtain ⟨x1, rfl, b1, d1⟩ := aG_int g1
  dsimp only at b1 d1
  obtain ⟨x2, rfl, b2, d2⟩ := aG_int g2
  dsimp only at b2 d2
  obtain ⟨x3, rfl, b3, d3⟩ := aG_int g3
  dsimp only at b3 d3
  obtain ⟨x4, rfl, b4, d4⟩ := aG_int g4
  dsimp only at b4 d4
  obtain ⟨m1, m2, m3, m4⟩ := hM
  have l0 : 0 ≤ (1 * x4.toInt + (-1 * x1.toInt + 0)) + 0 := by
    obtain ⟨z, e6, e7⟩ := m3 ([(4, 1), (1, -1)], 0) (List.mem_of_getElem? (i := 0) rfl)
    obtain rfl : (1 * x4.toInt + (-1 * x1.toInt + 0)) = z := Option.some.inj (show some (1 * x4.toInt + (-1 * x1.toInt + 0)) = some z from e6)
    exact e7
  have f0 : fB K n p 26 [fR x0, fI x1, fI x2, fI x3] σ := by
    obtain ⟨w, e6, e7⟩ := m4 (420, [0, 1, 2, 3]) (List.mem_of_getElem? (i := 0) rfl)
    obtain rfl : [fR x0, fI x1, fI x2, fI x3] = w := Option.some.inj (show some [fR x0, fI x1, fI x2, fI x3] = some w from e6)
    exact (fF_b (r := 420) (by decide) rfl).mp e7
  clear m1 m2 m3 m4
  have q0 : fB K n p 26 [fR x0, fI x4, fI x2, fI x3] σ := by
    obtain ⟨a, lo, hi, s, e, h1, h2, m, g, h3, h4⟩ := f0
    cases e
    exact ⟨x0, x4, x2, x3, rfl, h1, h2, m, g, h3, fun k hk => h4 k (by dsimp only at hk ⊢; omega)⟩
  refine ⟨p, fun _ => rfl, ⟨fun q h => (by cases h), fun q h => (by cases h), ?_, ?_⟩, [], List.mem_cons_self, fun f h => (by cases h)⟩
  · exact fun f h => by cases h
  · exact (aAllc ⟨_, rfl, (fF_b (r := 420) (by decide) rfl).mpr q0⟩ (fun f h => by cases h))

