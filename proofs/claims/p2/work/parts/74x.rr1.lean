/-! the reference: rules of g1 -/
theorem rA_1 {K : Nat → Nat} {n : Nat} {t0 : aT} {ρ : List jv} (h : aAG K n [t0] ρ) : ∃ v0 : jv, ρ = [v0] ∧ aG K n t0 v0 := by
  match ρ, h with
  | [v0], h => exact ⟨v0, rfl, h.1⟩
theorem rA_2 {K : Nat → Nat} {n : Nat} {t0 t1 : aT} {ρ : List jv} (h : aAG K n [t0, t1] ρ) : ∃ v0 v1 : jv, ρ = [v0, v1] ∧ aG K n t0 v0 ∧ aG K n t1 v1 := by
  match ρ, h with
  | [v0, v1], h => exact ⟨v0, v1, rfl, h.1, h.2.1⟩
theorem rA_3 {K : Nat → Nat} {n : Nat} {t0 t1 t2 : aT} {ρ : List jv} (h : aAG K n [t0, t1, t2] ρ) : ∃ v0 v1 v2 : jv, ρ = [v0, v1, v2] ∧ aG K n t0 v0 ∧ aG K n t1 v1 ∧ aG K n t2 v2 := by
  match ρ, h with
  | [v0, v1, v2], h => exact ⟨v0, v1, v2, rfl, h.1, h.2.1, h.2.2.1⟩
theorem rA_4 {K : Nat → Nat} {n : Nat} {t0 t1 t2 t3 : aT} {ρ : List jv} (h : aAG K n [t0, t1, t2, t3] ρ) : ∃ v0 v1 v2 v3 : jv, ρ = [v0, v1, v2, v3] ∧ aG K n t0 v0 ∧ aG K n t1 v1 ∧ aG K n t2 v2 ∧ aG K n t3 v3 := by
  match ρ, h with
  | [v0, v1, v2, v3], h => exact ⟨v0, v1, v2, v3, rfl, h.1, h.2.1, h.2.2.1, h.2.2.2.1⟩
theorem rA_5 {K : Nat → Nat} {n : Nat} {t0 t1 t2 t3 t4 : aT} {ρ : List jv} (h : aAG K n [t0, t1, t2, t3, t4] ρ) : ∃ v0 v1 v2 v3 v4 : jv, ρ = [v0, v1, v2, v3, v4] ∧ aG K n t0 v0 ∧ aG K n t1 v1 ∧ aG K n t2 v2 ∧ aG K n t3 v3 ∧ aG K n t4 v4 := by
  match ρ, h with
  | [v0, v1, v2, v3, v4], h => exact ⟨v0, v1, v2, v3, v4, rfl, h.1, h.2.1, h.2.2.1, h.2.2.2.1, h.2.2.2.2.1⟩
theorem rA_6 {K : Nat → Nat} {n : Nat} {t0 t1 t2 t3 t4 t5 : aT} {ρ : List jv} (h : aAG K n [t0, t1, t2, t3, t4, t5] ρ) : ∃ v0 v1 v2 v3 v4 v5 : jv, ρ = [v0, v1, v2, v3, v4, v5] ∧ aG K n t0 v0 ∧ aG K n t1 v1 ∧ aG K n t2 v2 ∧ aG K n t3 v3 ∧ aG K n t4 v4 ∧ aG K n t5 v5 := by
  match ρ, h with
  | [v0, v1, v2, v3, v4, v5], h => exact ⟨v0, v1, v2, v3, v4, v5, rfl, h.1, h.2.1, h.2.2.1, h.2.2.2.1, h.2.2.2.2.1, h.2.2.2.2.2.1⟩
theorem rA_7 {K : Nat → Nat} {n : Nat} {t0 t1 t2 t3 t4 t5 t6 : aT} {ρ : List jv} (h : aAG K n [t0, t1, t2, t3, t4, t5, t6] ρ) : ∃ v0 v1 v2 v3 v4 v5 v6 : jv, ρ = [v0, v1, v2, v3, v4, v5, v6] ∧ aG K n t0 v0 ∧ aG K n t1 v1 ∧ aG K n t2 v2 ∧ aG K n t3 v3 ∧ aG K n t4 v4 ∧ aG K n t5 v5 ∧ aG K n t6 v6 := by
  match ρ, h with
  | [v0, v1, v2, v3, v4, v5, v6], h => exact ⟨v0, v1, v2, v3, v4, v5, v6, rfl, h.1, h.2.1, h.2.2.1, h.2.2.2.1, h.2.2.2.2.1, h.2.2.2.2.2.1, h.2.2.2.2.2.2.1⟩
theorem rA_8 {K : Nat → Nat} {n : Nat} {t0 t1 t2 t3 t4 t5 t6 t7 : aT} {ρ : List jv} (h : aAG K n [t0, t1, t2, t3, t4, t5, t6, t7] ρ) : ∃ v0 v1 v2 v3 v4 v5 v6 v7 : jv, ρ = [v0, v1, v2, v3, v4, v5, v6, v7] ∧ aG K n t0 v0 ∧ aG K n t1 v1 ∧ aG K n t2 v2 ∧ aG K n t3 v3 ∧ aG K n t4 v4 ∧ aG K n t5 v5 ∧ aG K n t6 v6 ∧ aG K n t7 v7 := by
  match ρ, h with
  | [v0, v1, v2, v3, v4, v5, v6, v7], h => exact ⟨v0, v1, v2, v3, v4, v5, v6, v7, rfl, h.1, h.2.1, h.2.2.1, h.2.2.2.1, h.2.2.2.2.1, h.2.2.2.2.2.1, h.2.2.2.2.2.2.1, h.2.2.2.2.2.2.2.1⟩
theorem rA_9 {K : Nat → Nat} {n : Nat} {t0 t1 t2 t3 t4 t5 t6 t7 t8 : aT} {ρ : List jv} (h : aAG K n [t0, t1, t2, t3, t4, t5, t6, t7, t8] ρ) : ∃ v0 v1 v2 v3 v4 v5 v6 v7 v8 : jv, ρ = [v0, v1, v2, v3, v4, v5, v6, v7, v8] ∧ aG K n t0 v0 ∧ aG K n t1 v1 ∧ aG K n t2 v2 ∧ aG K n t3 v3 ∧ aG K n t4 v4 ∧ aG K n t5 v5 ∧ aG K n t6 v6 ∧ aG K n t7 v7 ∧ aG K n t8 v8 := by
  match ρ, h with
  | [v0, v1, v2, v3, v4, v5, v6, v7, v8], h => exact ⟨v0, v1, v2, v3, v4, v5, v6, v7, v8, rfl, h.1, h.2.1, h.2.2.1, h.2.2.2.1, h.2.2.2.2.1, h.2.2.2.2.2.1, h.2.2.2.2.2.2.1, h.2.2.2.2.2.2.2.1, h.2.2.2.2.2.2.2.2.1⟩
theorem rA_10 {K : Nat → Nat} {n : Nat} {t0 t1 t2 t3 t4 t5 t6 t7 t8 t9 : aT} {ρ : List jv} (h : aAG K n [t0, t1, t2, t3, t4, t5, t6, t7, t8, t9] ρ) : ∃ v0 v1 v2 v3 v4 v5 v6 v7 v8 v9 : jv, ρ = [v0, v1, v2, v3, v4, v5, v6, v7, v8, v9] ∧ aG K n t0 v0 ∧ aG K n t1 v1 ∧ aG K n t2 v2 ∧ aG K n t3 v3 ∧ aG K n t4 v4 ∧ aG K n t5 v5 ∧ aG K n t6 v6 ∧ aG K n t7 v7 ∧ aG K n t8 v8 ∧ aG K n t9 v9 := by
  match ρ, h with
  | [v0, v1, v2, v3, v4, v5, v6, v7, v8, v9], h => exact ⟨v0, v1, v2, v3, v4, v5, v6, v7, v8, v9, rfl, h.1, h.2.1, h.2.2.1, h.2.2.2.1, h.2.2.2.2.1, h.2.2.2.2.2.1, h.2.2.2.2.2.2.1, h.2.2.2.2.2.2.2.1, h.2.2.2.2.2.2.2.2.1, h.2.2.2.2.2.2.2.2.2.1⟩
theorem rA_11 {K : Nat → Nat} {n : Nat} {t0 t1 t2 t3 t4 t5 t6 t7 t8 t9 t10 : aT} {ρ : List jv} (h : aAG K n [t0, t1, t2, t3, t4, t5, t6, t7, t8, t9, t10] ρ) : ∃ v0 v1 v2 v3 v4 v5 v6 v7 v8 v9 v10 : jv, ρ = [v0, v1, v2, v3, v4, v5, v6, v7, v8, v9, v10] ∧ aG K n t0 v0 ∧ aG K n t1 v1 ∧ aG K n t2 v2 ∧ aG K n t3 v3 ∧ aG K n t4 v4 ∧ aG K n t5 v5 ∧ aG K n t6 v6 ∧ aG K n t7 v7 ∧ aG K n t8 v8 ∧ aG K n t9 v9 ∧ aG K n t10 v10 := by
  match ρ, h with
  | [v0, v1, v2, v3, v4, v5, v6, v7, v8, v9, v10], h => exact ⟨v0, v1, v2, v3, v4, v5, v6, v7, v8, v9, v10, rfl, h.1, h.2.1, h.2.2.1, h.2.2.2.1, h.2.2.2.2.1, h.2.2.2.2.2.1, h.2.2.2.2.2.2.1, h.2.2.2.2.2.2.2.1, h.2.2.2.2.2.2.2.2.1, h.2.2.2.2.2.2.2.2.2.1, h.2.2.2.2.2.2.2.2.2.2.1⟩
theorem rA_12 {K : Nat → Nat} {n : Nat} {t0 t1 t2 t3 t4 t5 t6 t7 t8 t9 t10 t11 : aT} {ρ : List jv} (h : aAG K n [t0, t1, t2, t3, t4, t5, t6, t7, t8, t9, t10, t11] ρ) : ∃ v0 v1 v2 v3 v4 v5 v6 v7 v8 v9 v10 v11 : jv, ρ = [v0, v1, v2, v3, v4, v5, v6, v7, v8, v9, v10, v11] ∧ aG K n t0 v0 ∧ aG K n t1 v1 ∧ aG K n t2 v2 ∧ aG K n t3 v3 ∧ aG K n t4 v4 ∧ aG K n t5 v5 ∧ aG K n t6 v6 ∧ aG K n t7 v7 ∧ aG K n t8 v8 ∧ aG K n t9 v9 ∧ aG K n t10 v10 ∧ aG K n t11 v11 := by
  match ρ, h with
  | [v0, v1, v2, v3, v4, v5, v6, v7, v8, v9, v10, v11], h => exact ⟨v0, v1, v2, v3, v4, v5, v6, v7, v8, v9, v10, v11, rfl, h.1, h.2.1, h.2.2.1, h.2.2.2.1, h.2.2.2.2.1, h.2.2.2.2.2.1, h.2.2.2.2.2.2.1, h.2.2.2.2.2.2.2.1, h.2.2.2.2.2.2.2.2.1, h.2.2.2.2.2.2.2.2.2.1, h.2.2.2.2.2.2.2.2.2.2.1, h.2.2.2.2.2.2.2.2.2.2.2.1⟩
theorem rA_13 {K : Nat → Nat} {n : Nat} {t0 t1 t2 t3 t4 t5 t6 t7 t8 t9 t10 t11 t12 : aT} {ρ : List jv} (h : aAG K n [t0, t1, t2, t3, t4, t5, t6, t7, t8, t9, t10, t11, t12] ρ) : ∃ v0 v1 v2 v3 v4 v5 v6 v7 v8 v9 v10 v11 v12 : jv, ρ = [v0, v1, v2, v3, v4, v5, v6, v7, v8, v9, v10, v11, v12] ∧ aG K n t0 v0 ∧ aG K n t1 v1 ∧ aG K n t2 v2 ∧ aG K n t3 v3 ∧ aG K n t4 v4 ∧ aG K n t5 v5 ∧ aG K n t6 v6 ∧ aG K n t7 v7 ∧ aG K n t8 v8 ∧ aG K n t9 v9 ∧ aG K n t10 v10 ∧ aG K n t11 v11 ∧ aG K n t12 v12 := by
  match ρ, h with
  | [v0, v1, v2, v3, v4, v5, v6, v7, v8, v9, v10, v11, v12], h => exact ⟨v0, v1, v2, v3, v4, v5, v6, v7, v8, v9, v10, v11, v12, rfl, h.1, h.2.1, h.2.2.1, h.2.2.2.1, h.2.2.2.2.1, h.2.2.2.2.2.1, h.2.2.2.2.2.2.1, h.2.2.2.2.2.2.2.1, h.2.2.2.2.2.2.2.2.1, h.2.2.2.2.2.2.2.2.2.1, h.2.2.2.2.2.2.2.2.2.2.1, h.2.2.2.2.2.2.2.2.2.2.2.1, h.2.2.2.2.2.2.2.2.2.2.2.2.1⟩
theorem rA_15 {K : Nat → Nat} {n : Nat} {t0 t1 t2 t3 t4 t5 t6 t7 t8 t9 t10 t11 t12 t13 t14 : aT} {ρ : List jv} (h : aAG K n [t0, t1, t2, t3, t4, t5, t6, t7, t8, t9, t10, t11, t12, t13, t14] ρ) : ∃ v0 v1 v2 v3 v4 v5 v6 v7 v8 v9 v10 v11 v12 v13 v14 : jv, ρ = [v0, v1, v2, v3, v4, v5, v6, v7, v8, v9, v10, v11, v12, v13, v14] ∧ aG K n t0 v0 ∧ aG K n t1 v1 ∧ aG K n t2 v2 ∧ aG K n t3 v3 ∧ aG K n t4 v4 ∧ aG K n t5 v5 ∧ aG K n t6 v6 ∧ aG K n t7 v7 ∧ aG K n t8 v8 ∧ aG K n t9 v9 ∧ aG K n t10 v10 ∧ aG K n t11 v11 ∧ aG K n t12 v12 ∧ aG K n t13 v13 ∧ aG K n t14 v14 := by
  match ρ, h with
  | [v0, v1, v2, v3, v4, v5, v6, v7, v8, v9, v10, v11, v12, v13, v14], h => exact ⟨v0, v1, v2, v3, v4, v5, v6, v7, v8, v9, v10, v11, v12, v13, v14, rfl, h.1, h.2.1, h.2.2.1, h.2.2.2.1, h.2.2.2.2.1, h.2.2.2.2.2.1, h.2.2.2.2.2.2.1, h.2.2.2.2.2.2.2.1, h.2.2.2.2.2.2.2.2.1, h.2.2.2.2.2.2.2.2.2.1, h.2.2.2.2.2.2.2.2.2.2.1, h.2.2.2.2.2.2.2.2.2.2.2.1, h.2.2.2.2.2.2.2.2.2.2.2.2.1, h.2.2.2.2.2.2.2.2.2.2.2.2.2.1, h.2.2.2.2.2.2.2.2.2.2.2.2.2.2.1⟩
theorem rA_17 {K : Nat → Nat} {n : Nat} {t0 t1 t2 t3 t4 t5 t6 t7 t8 t9 t10 t11 t12 t13 t14 t15 t16 : aT} {ρ : List jv} (h : aAG K n [t0, t1, t2, t3, t4, t5, t6, t7, t8, t9, t10, t11, t12, t13, t14, t15, t16] ρ) : ∃ v0 v1 v2 v3 v4 v5 v6 v7 v8 v9 v10 v11 v12 v13 v14 v15 v16 : jv, ρ = [v0, v1, v2, v3, v4, v5, v6, v7, v8, v9, v10, v11, v12, v13, v14, v15, v16] ∧ aG K n t0 v0 ∧ aG K n t1 v1 ∧ aG K n t2 v2 ∧ aG K n t3 v3 ∧ aG K n t4 v4 ∧ aG K n t5 v5 ∧ aG K n t6 v6 ∧ aG K n t7 v7 ∧ aG K n t8 v8 ∧ aG K n t9 v9 ∧ aG K n t10 v10 ∧ aG K n t11 v11 ∧ aG K n t12 v12 ∧ aG K n t13 v13 ∧ aG K n t14 v14 ∧ aG K n t15 v15 ∧ aG K n t16 v16 := by
  match ρ, h with
  | [v0, v1, v2, v3, v4, v5, v6, v7, v8, v9, v10, v11, v12, v13, v14, v15, v16], h => exact ⟨v0, v1, v2, v3, v4, v5, v6, v7, v8, v9, v10, v11, v12, v13, v14, v15, v16, rfl, h.1, h.2.1, h.2.2.1, h.2.2.2.1, h.2.2.2.2.1, h.2.2.2.2.2.1, h.2.2.2.2.2.2.1, h.2.2.2.2.2.2.2.1, h.2.2.2.2.2.2.2.2.1, h.2.2.2.2.2.2.2.2.2.1, h.2.2.2.2.2.2.2.2.2.2.1, h.2.2.2.2.2.2.2.2.2.2.2.1, h.2.2.2.2.2.2.2.2.2.2.2.2.1, h.2.2.2.2.2.2.2.2.2.2.2.2.2.1, h.2.2.2.2.2.2.2.2.2.2.2.2.2.2.1, h.2.2.2.2.2.2.2.2.2.2.2.2.2.2.2.1, h.2.2.2.2.2.2.2.2.2.2.2.2.2.2.2.2.1⟩
theorem rRs {M : Int → Int} {k s a b u : Int} {A : Prop} (a1 : -2 ≤ a) (a2 : a ≤ 2) (b1 : -2 ≤ b) (b2 : b ≤ 2) (hA : A ↔ rR1 M k s a b u) : ((∃ f r, -2 ≤ f ∧ (f < a ∨ (f = a ∧ r < b)) ∧ -2 ≤ r ∧ r ≤ 2 ∧ rR1 M k s f r u) ∨ A) ↔ ∃ f r, -2 ≤ f ∧ (f < a ∨ (f = a ∧ r < b + 1)) ∧ -2 ≤ r ∧ r ≤ 2 ∧ rR1 M k s f r u := by
  constructor
  · rintro (⟨f, r, h3, h4, h5, h6, h7⟩ | h)
    · exact ⟨f, r, h3, by omega, h5, h6, h7⟩
    · exact ⟨a, b, a1, by omega, b1, b2, hA.mp h⟩
  · rintro ⟨f, r, h3, h4, h5, h6, h7⟩
    by_cases c : f = a ∧ r = b
    · rw [c.1, c.2] at h7
      exact Or.inr (hA.mpr h7)
    · exact Or.inl ⟨f, r, h3, by omega, h5, h6, h7⟩

theorem rw_rvTRI {K : Nat → Nat} {n : Nat} {JX : (Nat → jcell) → Prop} : aGho (rF K n) fa_T K n JX ag_rvTRI := by
  refine aGho_of ⟨rfl, rfl⟩ ?_
  intro p σ ρ hH hX hA hM0
  have hG := aAG_of hA.1 (fun i e v he hv => (hA.2 i e v he hv).1)
  clear hA
  obtain ⟨v0, v1, rfl, g0, g1⟩ := rA_2 hG
  clear hG
  obtain ⟨x0, rfl, b0, d0⟩ := aG_int g0
  dsimp only at b0 d0
  obtain ⟨x1, rfl, b1, d1⟩ := aG_int g1
  dsimp only at b1 d1
  obtain ⟨m1, m2, m3, m4⟩ := hM0
  clear m1 m2 m3 m4
  have hd : (0 ≤ (-1 * x0.toInt + (1 * x1.toInt + 0)) + -1) ∨ (0 ≤ (1 * x0.toInt + (-1 * x1.toInt + 0)) + 0 ∧ 0 ≤ (-1 * x0.toInt + (1 * x1.toInt + 0)) + 0) ∨ (0 ≤ (1 * x0.toInt + (-1 * x1.toInt + 0)) + -1) := by
    omega
  rcases hd with w0 | ⟨w0, w1⟩ | w0
  · exact ⟨p, fun _ => rfl, ⟨(fun q h => by cases h), fun q h => (by cases h), (fun f h => by cases h), (fun f h => by cases h)⟩, _, List.mem_of_getElem? (i := 0) rfl, (aAllc ⟨_, rfl, w0⟩ (fun f h => by cases h))⟩
  · exact ⟨p, fun _ => rfl, ⟨(fun q h => by cases h), fun q h => (by cases h), (fun f h => by cases h), (fun f h => by cases h)⟩, _, List.mem_of_getElem? (i := 1) rfl, (aAllc ⟨_, rfl, w0⟩ (aAllc ⟨_, rfl, w1⟩ (fun f h => by cases h)))⟩
  · exact ⟨p, fun _ => rfl, ⟨(fun q h => by cases h), fun q h => (by cases h), (fun f h => by cases h), (fun f h => by cases h)⟩, _, List.mem_of_getElem? (i := 2) rfl, (aAllc ⟨_, rfl, w0⟩ (fun f h => by cases h))⟩
theorem rw_rvON1 {K : Nat → Nat} {n : Nat} {JX : (Nat → jcell) → Prop} : aGho (rF K n) fa_T K n JX ag_rvON1 := by
  refine aGho_of ⟨rfl, rfl⟩ ?_
  intro p σ ρ hH hX hA hM0
  have hG := aAG_of hA.1 (fun i e v he hv => (hA.2 i e v he hv).1)
  clear hA
  obtain ⟨v0, v1, v2, rfl, g0, g1, g2⟩ := rA_3 hG
  clear hG
  obtain ⟨x0, rfl, b0, d0⟩ := aG_int g0
  dsimp only at b0 d0
  obtain ⟨x1, rfl, b1, d1⟩ := aG_int g1
  dsimp only at b1 d1
  obtain ⟨x2, rfl, b2, d2⟩ := aG_int g2
  dsimp only at b2 d2
  obtain ⟨m1, m2, m3, m4⟩ := hM0
  clear m1 m2 m3 m4
  have q0 : rB K n p 121 [rI x0, rI x1, rI x2] σ := ro_121.mpr (by
    omega)
  exact ⟨p, fun _ => rfl, ⟨(fun q h => by cases h), fun q h => (by cases h), (fun f h => by cases h), (aAllc ⟨_, rfl, (rF_b (r := 1939) (by decide) rfl).mpr q0⟩ (fun f h => by cases h))⟩, [], List.mem_cons_self, fun f h => (by cases h)⟩
theorem rw_rvONa {K : Nat → Nat} {n : Nat} {JX : (Nat → jcell) → Prop} : aGho (rF K n) fa_T K n JX ag_rvONa := by
  refine aGho_of ⟨rfl, rfl⟩ ?_
  intro p σ ρ hH hX hA hM0
  have hG := aAG_of hA.1 (fun i e v he hv => (hA.2 i e v he hv).1)
  clear hA
  obtain ⟨v0, v1, v2, rfl, g0, g1, g2⟩ := rA_3 hG
  clear hG
  obtain ⟨x0, rfl, b0, d0⟩ := aG_int g0
  dsimp only at b0 d0
  obtain ⟨x1, rfl, b1, d1⟩ := aG_int g1
  dsimp only at b1 d1
  obtain ⟨x2, rfl, b2, d2⟩ := aG_int g2
  dsimp only at b2 d2
  obtain ⟨m1, m2, m3, m4⟩ := hM0
  clear m1 m2 m3 m4
  have q0 : rB K n p 121 [rI x0, rI x1, rI x2] σ := ro_121.mpr (by
    omega)
  exact ⟨p, fun _ => rfl, ⟨(fun q h => by cases h), fun q h => (by cases h), (fun f h => by cases h), (aAllc ⟨_, rfl, (rF_b (r := 1939) (by decide) rfl).mpr q0⟩ (fun f h => by cases h))⟩, [], List.mem_cons_self, fun f h => (by cases h)⟩
theorem rw_rvONb {K : Nat → Nat} {n : Nat} {JX : (Nat → jcell) → Prop} : aGho (rF K n) fa_T K n JX ag_rvONb := by
  refine aGho_of ⟨rfl, rfl⟩ ?_
  intro p σ ρ hH hX hA hM0
  have hG := aAG_of hA.1 (fun i e v he hv => (hA.2 i e v he hv).1)
  clear hA
  obtain ⟨v0, v1, v2, rfl, g0, g1, g2⟩ := rA_3 hG
  clear hG
  obtain ⟨x0, rfl, b0, d0⟩ := aG_int g0
  dsimp only at b0 d0
  obtain ⟨x1, rfl, b1, d1⟩ := aG_int g1
  dsimp only at b1 d1
  obtain ⟨x2, rfl, b2, d2⟩ := aG_int g2
  dsimp only at b2 d2
  obtain ⟨m1, m2, m3, m4⟩ := hM0
  clear m1 m2 m3 m4
  have q0 : rB K n p 121 [rI x0, rI x1, rI x2] σ := ro_121.mpr (by
    omega)
  exact ⟨p, fun _ => rfl, ⟨(fun q h => by cases h), fun q h => (by cases h), (fun f h => by cases h), (aAllc ⟨_, rfl, (rF_b (r := 1939) (by decide) rfl).mpr q0⟩ (fun f h => by cases h))⟩, [], List.mem_cons_self, fun f h => (by cases h)⟩
theorem rw_rvONc {K : Nat → Nat} {n : Nat} {JX : (Nat → jcell) → Prop} : aGho (rF K n) fa_T K n JX ag_rvONc := by
  refine aGho_of ⟨rfl, rfl⟩ ?_
  intro p σ ρ hH hX hA hM0
  have hG := aAG_of hA.1 (fun i e v he hv => (hA.2 i e v he hv).1)
  clear hA
  obtain ⟨v0, v1, v2, rfl, g0, g1, g2⟩ := rA_3 hG
  clear hG
  obtain ⟨x0, rfl, b0, d0⟩ := aG_int g0
  dsimp only at b0 d0
  obtain ⟨x1, rfl, b1, d1⟩ := aG_int g1
  dsimp only at b1 d1
  obtain ⟨x2, rfl, b2, d2⟩ := aG_int g2
  dsimp only at b2 d2
  obtain ⟨m1, m2, m3, m4⟩ := hM0
  clear m1 m2 m3 m4
  have q0 : rB K n p 121 [rI x0, rI x1, rI x2] σ := ro_121.mpr (by
    omega)
  exact ⟨p, fun _ => rfl, ⟨(fun q h => by cases h), fun q h => (by cases h), (fun f h => by cases h), (aAllc ⟨_, rfl, (rF_b (r := 1939) (by decide) rfl).mpr q0⟩ (fun f h => by cases h))⟩, [], List.mem_cons_self, fun f h => (by cases h)⟩
theorem rw_rvONd {K : Nat → Nat} {n : Nat} {JX : (Nat → jcell) → Prop} : aGho (rF K n) fa_T K n JX ag_rvONd := by
  refine aGho_of ⟨rfl, rfl⟩ ?_
  intro p σ ρ hH hX hA hM0
  have hG := aAG_of hA.1 (fun i e v he hv => (hA.2 i e v he hv).1)
  clear hA
  obtain ⟨v0, v1, v2, rfl, g0, g1, g2⟩ := rA_3 hG
  clear hG
  obtain ⟨x0, rfl, b0, d0⟩ := aG_int g0
  dsimp only at b0 d0
  obtain ⟨x1, rfl, b1, d1⟩ := aG_int g1
  dsimp only at b1 d1
  obtain ⟨x2, rfl, b2, d2⟩ := aG_int g2
  dsimp only at b2 d2
  obtain ⟨m1, m2, m3, m4⟩ := hM0
  clear m1 m2 m3 m4
  have q0 : rB K n p 121 [rI x0, rI x1, rI x2] σ := ro_121.mpr (by
    omega)
  exact ⟨p, fun _ => rfl, ⟨(fun q h => by cases h), fun q h => (by cases h), (fun f h => by cases h), (aAllc ⟨_, rfl, (rF_b (r := 1939) (by decide) rfl).mpr q0⟩ (fun f h => by cases h))⟩, [], List.mem_cons_self, fun f h => (by cases h)⟩
theorem rw_rvST1 {K : Nat → Nat} {n : Nat} {JX : (Nat → jcell) → Prop} : aGho (rF K n) fa_T K n JX ag_rvST1 := by
  refine aGho_of ⟨rfl, rfl⟩ ?_
  intro p σ ρ hH hX hA hM0
  have hG := aAG_of hA.1 (fun i e v he hv => (hA.2 i e v he hv).1)
  clear hA
  obtain ⟨v0, v1, v2, v3, v4, rfl, g0, g1, g2, g3, g4⟩ := rA_5 hG
  clear hG
  obtain ⟨x0, rfl, b0, d0⟩ := aG_int g0
  dsimp only at b0 d0
  obtain ⟨x1, rfl, b1, d1⟩ := aG_int g1
  dsimp only at b1 d1
  obtain ⟨x2, rfl, b2, d2⟩ := aG_int g2
  dsimp only at b2 d2
  obtain ⟨x3, rfl, b3, d3⟩ := aG_int g3
  dsimp only at b3 d3
  obtain ⟨x4, rfl, b4, d4⟩ := aG_int g4
  dsimp only at b4 d4
  obtain ⟨m1, m2, m3, m4⟩ := hM0
  have l0 : 0 ≤ (1 * x0.toInt + (-8 * x4.toInt + 0)) + 0 := by
    obtain ⟨z, e6, e7⟩ := m3 ([(0, 1), (4, -8)], 0) (List.mem_of_getElem? (i := 0) rfl)
    obtain rfl : (1 * x0.toInt + (-8 * x4.toInt + 0)) = z := Option.some.inj (show some (1 * x0.toInt + (-8 * x4.toInt + 0)) = some z from e6)
    exact e7
  have l1 : 0 ≤ (-1 * x0.toInt + (8 * x4.toInt + 0)) + 7 := by
    obtain ⟨z, e6, e7⟩ := m3 ([(0, -1), (4, 8)], 7) (List.mem_of_getElem? (i := 1) rfl)
    obtain rfl : (-1 * x0.toInt + (8 * x4.toInt + 0)) = z := Option.some.inj (show some (-1 * x0.toInt + (8 * x4.toInt + 0)) = some z from e6)
    exact e7
  have l2 : 0 ≤ (1 * x3.toInt + (-1 * x0.toInt + (-1 * x1.toInt + (-8 * x2.toInt + 0)))) + 0 := by
    obtain ⟨z, e6, e7⟩ := m3 ([(3, 1), (0, -1), (1, -1), (2, -8)], 0) (List.mem_of_getElem? (i := 2) rfl)
    obtain rfl : (1 * x3.toInt + (-1 * x0.toInt + (-1 * x1.toInt + (-8 * x2.toInt + 0)))) = z := Option.some.inj (show some (1 * x3.toInt + (-1 * x0.toInt + (-1 * x1.toInt + (-8 * x2.toInt + 0)))) = some z from e6)
    exact e7
  have l3 : 0 ≤ (-1 * x3.toInt + (1 * x0.toInt + (1 * x1.toInt + (8 * x2.toInt + 0)))) + 0 := by
    obtain ⟨z, e6, e7⟩ := m3 ([(3, -1), (0, 1), (1, 1), (2, 8)], 0) (List.mem_of_getElem? (i := 3) rfl)
    obtain rfl : (-1 * x3.toInt + (1 * x0.toInt + (1 * x1.toInt + (8 * x2.toInt + 0)))) = z := Option.some.inj (show some (-1 * x3.toInt + (1 * x0.toInt + (1 * x1.toInt + (8 * x2.toInt + 0)))) = some z from e6)
    exact e7
  have l4 : 0 ≤ (1 * x0.toInt + (-8 * x4.toInt + (1 * x1.toInt + 0))) + 0 := by
    obtain ⟨z, e6, e7⟩ := m3 ([(0, 1), (4, -8), (1, 1)], 0) (List.mem_of_getElem? (i := 4) rfl)
    obtain rfl : (1 * x0.toInt + (-8 * x4.toInt + (1 * x1.toInt + 0))) = z := Option.some.inj (show some (1 * x0.toInt + (-8 * x4.toInt + (1 * x1.toInt + 0))) = some z from e6)
    exact e7
  have l5 : 0 ≤ (-1 * x0.toInt + (8 * x4.toInt + (-1 * x1.toInt + 0))) + 7 := by
    obtain ⟨z, e6, e7⟩ := m3 ([(0, -1), (4, 8), (1, -1)], 7) (List.mem_of_getElem? (i := 5) rfl)
    obtain rfl : (-1 * x0.toInt + (8 * x4.toInt + (-1 * x1.toInt + 0))) = z := Option.some.inj (show some (-1 * x0.toInt + (8 * x4.toInt + (-1 * x1.toInt + 0))) = some z from e6)
    exact e7
  have l6 : 0 ≤ (1 * x4.toInt + (1 * x2.toInt + 0)) + 0 := by
    obtain ⟨z, e6, e7⟩ := m3 ([(4, 1), (2, 1)], 0) (List.mem_of_getElem? (i := 6) rfl)
    obtain rfl : (1 * x4.toInt + (1 * x2.toInt + 0)) = z := Option.some.inj (show some (1 * x4.toInt + (1 * x2.toInt + 0)) = some z from e6)
    exact e7
  have l7 : 0 ≤ (-1 * x4.toInt + (-1 * x2.toInt + 0)) + 7 := by
    obtain ⟨z, e6, e7⟩ := m3 ([(4, -1), (2, -1)], 7) (List.mem_of_getElem? (i := 7) rfl)
    obtain rfl : (-1 * x4.toInt + (-1 * x2.toInt + 0)) = z := Option.some.inj (show some (-1 * x4.toInt + (-1 * x2.toInt + 0)) = some z from e6)
    exact e7
  clear m1 m2 m3 m4
  have q0 : rB K n p 120 [rI x0, rI x1, rI x2, rI x3] σ := ro_120.mpr (by
    unfold rSp
    rw [if_pos (by omega)]
    omega)
  exact ⟨p, fun _ => rfl, ⟨(fun q h => by cases h), fun q h => (by cases h), (fun f h => by cases h), (aAllc ⟨_, rfl, (rF_b (r := 1924) (by decide) rfl).mpr q0⟩ (fun f h => by cases h))⟩, [], List.mem_cons_self, fun f h => (by cases h)⟩
theorem rw_rvST0 {K : Nat → Nat} {n : Nat} {JX : (Nat → jcell) → Prop} : aGho (rF K n) fa_T K n JX ag_rvST0 := by
  refine aGho_of ⟨rfl, rfl⟩ ?_
  intro p σ ρ hH hX hA hM0
  have hG := aAG_of hA.1 (fun i e v he hv => (hA.2 i e v he hv).1)
  clear hA
  obtain ⟨v0, v1, v2, v3, v4, v5, v6, v7, rfl, g0, g1, g2, g3, g4, g5, g6, g7⟩ := rA_8 hG
  clear hG
  obtain ⟨x0, rfl, b0, d0⟩ := aG_int g0
  dsimp only at b0 d0
  obtain ⟨x1, rfl, b1, d1⟩ := aG_int g1
  dsimp only at b1 d1
  obtain ⟨x2, rfl, b2, d2⟩ := aG_int g2
  dsimp only at b2 d2
  obtain ⟨x3, rfl, b3, d3⟩ := aG_int g3
  dsimp only at b3 d3
  obtain ⟨x4, rfl, b4, d4⟩ := aG_int g4
  dsimp only at b4 d4
  obtain ⟨x5, rfl, b5, d5⟩ := aG_int g5
  dsimp only at b5 d5
  obtain ⟨x6, rfl, b6, d6⟩ := aG_int g6
  dsimp only at b6 d6
  obtain ⟨x7, rfl, b7, d7⟩ := aG_int g7
  dsimp only at b7 d7
  obtain ⟨m1, m2, m3, m4⟩ := hM0
  have l0 : 0 ≤ (1 * x0.toInt + (-8 * x4.toInt + 0)) + 0 := by
    obtain ⟨z, e6, e7⟩ := m3 ([(0, 1), (4, -8)], 0) (List.mem_of_getElem? (i := 0) rfl)
    obtain rfl : (1 * x0.toInt + (-8 * x4.toInt + 0)) = z := Option.some.inj (show some (1 * x0.toInt + (-8 * x4.toInt + 0)) = some z from e6)
    exact e7
  have l1 : 0 ≤ (-1 * x0.toInt + (8 * x4.toInt + 0)) + 7 := by
    obtain ⟨z, e6, e7⟩ := m3 ([(0, -1), (4, 8)], 7) (List.mem_of_getElem? (i := 1) rfl)
    obtain rfl : (-1 * x0.toInt + (8 * x4.toInt + 0)) = z := Option.some.inj (show some (-1 * x0.toInt + (8 * x4.toInt + 0)) = some z from e6)
    exact e7
  have l2 : 0 ≤ (1 * x5.toInt + (-1 * x0.toInt + (8 * x4.toInt + (-1 * x1.toInt + 0)))) + 0 := by
    obtain ⟨z, e6, e7⟩ := m3 ([(5, 1), (0, -1), (4, 8), (1, -1)], 0) (List.mem_of_getElem? (i := 2) rfl)
    obtain rfl : (1 * x5.toInt + (-1 * x0.toInt + (8 * x4.toInt + (-1 * x1.toInt + 0)))) = z := Option.some.inj (show some (1 * x5.toInt + (-1 * x0.toInt + (8 * x4.toInt + (-1 * x1.toInt + 0)))) = some z from e6)
    exact e7
  have l3 : 0 ≤ (-1 * x5.toInt + (1 * x0.toInt + (-8 * x4.toInt + (1 * x1.toInt + 0)))) + 0 := by
    obtain ⟨z, e6, e7⟩ := m3 ([(5, -1), (0, 1), (4, -8), (1, 1)], 0) (List.mem_of_getElem? (i := 3) rfl)
    obtain rfl : (-1 * x5.toInt + (1 * x0.toInt + (-8 * x4.toInt + (1 * x1.toInt + 0)))) = z := Option.some.inj (show some (-1 * x5.toInt + (1 * x0.toInt + (-8 * x4.toInt + (1 * x1.toInt + 0)))) = some z from e6)
    exact e7
  have l4 : 0 ≤ (1 * x6.toInt + (-1 * x4.toInt + (-1 * x2.toInt + 0))) + 0 := by
    obtain ⟨z, e6, e7⟩ := m3 ([(6, 1), (4, -1), (2, -1)], 0) (List.mem_of_getElem? (i := 4) rfl)
    obtain rfl : (1 * x6.toInt + (-1 * x4.toInt + (-1 * x2.toInt + 0))) = z := Option.some.inj (show some (1 * x6.toInt + (-1 * x4.toInt + (-1 * x2.toInt + 0))) = some z from e6)
    exact e7
  have l5 : 0 ≤ (-1 * x6.toInt + (1 * x4.toInt + (1 * x2.toInt + 0))) + 0 := by
    obtain ⟨z, e6, e7⟩ := m3 ([(6, -1), (4, 1), (2, 1)], 0) (List.mem_of_getElem? (i := 5) rfl)
    obtain rfl : (-1 * x6.toInt + (1 * x4.toInt + (1 * x2.toInt + 0))) = z := Option.some.inj (show some (-1 * x6.toInt + (1 * x4.toInt + (1 * x2.toInt + 0))) = some z from e6)
    exact e7
  have f0 : rB K n p 121 [rI x5, rI x6, rI x7] σ := by
    obtain ⟨w, e6, e7⟩ := m4 (1939, [5, 6, 7]) (List.mem_of_getElem? (i := 0) rfl)
    obtain rfl : [rI x5, rI x6, rI x7] = w := Option.some.inj (show some [rI x5, rI x6, rI x7] = some w from e6)
    exact (rF_b (r := 1939) (by decide) rfl).mp e7
  have f0 := ro_121.mp f0
  clear m1 m2 m3 m4
  have q0 : rB K n p 120 [rI x0, rI x1, rI x2, rI x3] σ := ro_120.mpr (by
    unfold rSp
    rw [if_neg (by omega)]
    omega)
  exact ⟨p, fun _ => rfl, ⟨(fun q h => by cases h), fun q h => (by cases h), (fun f h => by cases h), (aAllc ⟨_, rfl, (rF_b (r := 1924) (by decide) rfl).mpr q0⟩ (fun f h => by cases h))⟩, [], List.mem_cons_self, fun f h => (by cases h)⟩
theorem rw_rvQID {K : Nat → Nat} {n : Nat} {JX : (Nat → jcell) → Prop} : aGho (rF K n) fa_T K n JX ag_rvQID := by
  refine aGho_of ⟨rfl, rfl⟩ ?_
  intro p σ ρ hH hX hA hM0
  have hG := aAG_of hA.1 (fun i e v he hv => (hA.2 i e v he hv).1)
  clear hA
  obtain ⟨v0, rfl, g0⟩ := rA_1 hG
  clear hG
  obtain ⟨x0, rfl, b0, d0⟩ := aG_int g0
  dsimp only at b0 d0
  obtain ⟨m1, m2, m3, m4⟩ := hM0
  clear m1 m2 m3 m4
  have q0 : rB K n p 136 [rI x0] σ := ro_136.mpr (by
    trivial)
  exact ⟨p, fun _ => rfl, ⟨(fun q h => by cases h), fun q h => (by cases h), (fun f h => by cases h), (aAllc ⟨_, rfl, (rF_b (r := 2177) (by decide) rfl).mpr q0⟩ (fun f h => by cases h))⟩, [], List.mem_cons_self, fun f h => (by cases h)⟩
theorem rw_rvHM1 {K : Nat → Nat} {n : Nat} {JX : (Nat → jcell) → Prop} : aGho (rF K n) fa_T K n JX ag_rvHM1 := by
  refine aGho_of ⟨rfl, rfl⟩ ?_
  intro p σ ρ hH hX hA hM0
  have hG := aAG_of hA.1 (fun i e v he hv => (hA.2 i e v he hv).1)
  clear hA
  obtain ⟨v0, v1, v2, v3, v4, v5, rfl, g0, g1, g2, g3, g4, g5⟩ := rA_6 hG
  clear hG
  obtain ⟨x0, rfl, b0, d0⟩ := rG_ref (by decide) g0
  obtain ⟨x1, rfl, b1, d1⟩ := aG_int g1
  dsimp only at b1 d1
  obtain ⟨x2, rfl, b2, d2⟩ := aG_int g2
  dsimp only at b2 d2
  obtain ⟨x3, rfl, b3, d3⟩ := aG_int g3
  dsimp only at b3 d3
  obtain ⟨x4, rfl, b4, d4⟩ := aG_int g4
  dsimp only at b4 d4
  obtain ⟨x5, rfl, b5, d5⟩ := rG_ref (by decide) g5
  obtain ⟨m1, m2, m3, m4⟩ := hM0
  obtain ⟨M, hM⟩ := rMe_ex hH b0 d0
  obtain ⟨a0, c0, fs0, w0, e1, s0, t0, e4⟩ := m1 (0, 2, 5) (List.mem_of_getElem? (i := 0) rfl)
  obtain rfl : x0 = a0 := Sum.inl.inj (Option.some.inj (Sum.inr.inj (Sum.inr.inj (Option.some.inj (show some (rR x0) = some _ from e1)))))
  obtain rfl : rR x5 = w0 := Option.some.inj (show some (rR x5) = some w0 from e4)
  clear e1 e4
  obtain ⟨a, mc0, ty0, gc0, ic0, e1, sc0, jc0, e4, e5⟩ := m2 (5, ([(1, 1)], 0), 3) (List.mem_of_getElem? (i := 0) rfl)
  obtain rfl : x5 = a := Sum.inl.inj (Option.some.inj (Sum.inr.inj (Sum.inr.inj (Option.some.inj (show some (rR x5) = some _ from e1)))))
  obtain ⟨gc0, rfl⟩ : ∃ g, gc0 = .inl g := by
    rcases gc0 with g | g
    · exact ⟨g, rfl⟩
    · exact absurd (show some (rI x3) = some (.inr (.inl (g ic0))) from e5) (fun h => by cases h)
  have sc0 : σ x5 = .inl (ty0, mc0, .inl gc0) := sc0
  have ec0 : x3 = gc0 ic0 := Sum.inl.inj (Option.some.inj (show some (rI x3) = some _ from e5))
  have kc0 : (ic0 : Int) = (1 * x1.toInt + 0) + 0 := by
    obtain ⟨z, e6, e7⟩ := e4
    obtain rfl : (1 * x1.toInt + 0) = z := Option.some.inj (show some (1 * x1.toInt + 0) = some z from e6)
    exact e7
  clear e1 e4 e5
  have l0 : 0 ≤ (1 * x2.toInt + (-1 * x3.toInt + 0)) + 0 := by
    obtain ⟨z, e6, e7⟩ := m3 ([(2, 1), (3, -1)], 0) (List.mem_of_getElem? (i := 0) rfl)
    obtain rfl : (1 * x2.toInt + (-1 * x3.toInt + 0)) = z := Option.some.inj (show some (1 * x2.toInt + (-1 * x3.toInt + 0)) = some z from e6)
    exact e7
  have l1 : 0 ≤ (-1 * x2.toInt + (1 * x3.toInt + 0)) + 0 := by
    obtain ⟨z, e6, e7⟩ := m3 ([(2, -1), (3, 1)], 0) (List.mem_of_getElem? (i := 1) rfl)
    obtain rfl : (-1 * x2.toInt + (1 * x3.toInt + 0)) = z := Option.some.inj (show some (-1 * x2.toInt + (1 * x3.toInt + 0)) = some z from e6)
    exact e7
  have y0 : M x1.toInt = x3.toInt := rMg_c hM s0 t0 sc0 (by omega) (by omega) (by omega) ec0
  clear m1 m2 m3 m4
  have q0 : rB K n p 122 [rR x0, rI x1, rI x2, rI x4] σ := ro_122.mpr ⟨_, hM, by
    omega⟩
  exact ⟨p, fun _ => rfl, ⟨(fun q h => by cases h), fun q h => (by cases h), (fun f h => by cases h), (aAllc ⟨_, rfl, (rF_b (r := 1956) (by decide) rfl).mpr q0⟩ (fun f h => by cases h))⟩, [], List.mem_cons_self, fun f h => (by cases h)⟩
theorem rw_rvHMa {K : Nat → Nat} {n : Nat} {JX : (Nat → jcell) → Prop} : aGho (rF K n) fa_T K n JX ag_rvHMa := by
  refine aGho_of ⟨rfl, rfl⟩ ?_
  intro p σ ρ hH hX hA hM0
  have hG := aAG_of hA.1 (fun i e v he hv => (hA.2 i e v he hv).1)
  clear hA
  obtain ⟨v0, v1, v2, v3, v4, v5, rfl, g0, g1, g2, g3, g4, g5⟩ := rA_6 hG
  clear hG
  obtain ⟨x0, rfl, b0, d0⟩ := rG_ref (by decide) g0
  obtain ⟨x1, rfl, b1, d1⟩ := aG_int g1
  dsimp only at b1 d1
  obtain ⟨x2, rfl, b2, d2⟩ := aG_int g2
  dsimp only at b2 d2
  obtain ⟨x3, rfl, b3, d3⟩ := aG_int g3
  dsimp only at b3 d3
  obtain ⟨x4, rfl, b4, d4⟩ := aG_int g4
  dsimp only at b4 d4
  obtain ⟨x5, rfl, b5, d5⟩ := rG_ref (by decide) g5
  obtain ⟨m1, m2, m3, m4⟩ := hM0
  obtain ⟨M, hM⟩ := rMe_ex hH b0 d0
  obtain ⟨a0, c0, fs0, w0, e1, s0, t0, e4⟩ := m1 (0, 2, 5) (List.mem_of_getElem? (i := 0) rfl)
  obtain rfl : x0 = a0 := Sum.inl.inj (Option.some.inj (Sum.inr.inj (Sum.inr.inj (Option.some.inj (show some (rR x0) = some _ from e1)))))
  obtain rfl : rR x5 = w0 := Option.some.inj (show some (rR x5) = some w0 from e4)
  clear e1 e4
  obtain ⟨a, mc0, ty0, gc0, ic0, e1, sc0, jc0, e4, e5⟩ := m2 (5, ([(1, 1)], 0), 3) (List.mem_of_getElem? (i := 0) rfl)
  obtain rfl : x5 = a := Sum.inl.inj (Option.some.inj (Sum.inr.inj (Sum.inr.inj (Option.some.inj (show some (rR x5) = some _ from e1)))))
  obtain ⟨gc0, rfl⟩ : ∃ g, gc0 = .inl g := by
    rcases gc0 with g | g
    · exact ⟨g, rfl⟩
    · exact absurd (show some (rI x3) = some (.inr (.inl (g ic0))) from e5) (fun h => by cases h)
  have sc0 : σ x5 = .inl (ty0, mc0, .inl gc0) := sc0
  have ec0 : x3 = gc0 ic0 := Sum.inl.inj (Option.some.inj (show some (rI x3) = some _ from e5))
  have kc0 : (ic0 : Int) = (1 * x1.toInt + 0) + 0 := by
    obtain ⟨z, e6, e7⟩ := e4
    obtain rfl : (1 * x1.toInt + 0) = z := Option.some.inj (show some (1 * x1.toInt + 0) = some z from e6)
    exact e7
  clear e1 e4 e5
  have l0 : 0 ≤ (1 * x2.toInt + (-1 * x3.toInt + 0)) + -1 := by
    obtain ⟨z, e6, e7⟩ := m3 ([(2, 1), (3, -1)], -1) (List.mem_of_getElem? (i := 0) rfl)
    obtain rfl : (1 * x2.toInt + (-1 * x3.toInt + 0)) = z := Option.some.inj (show some (1 * x2.toInt + (-1 * x3.toInt + 0)) = some z from e6)
    exact e7
  have y0 : M x1.toInt = x3.toInt := rMg_c hM s0 t0 sc0 (by omega) (by omega) (by omega) ec0
  clear m1 m2 m3 m4
  have q0 : rB K n p 122 [rR x0, rI x1, rI x2, rI x4] σ := ro_122.mpr ⟨_, hM, by
    omega⟩
  exact ⟨p, fun _ => rfl, ⟨(fun q h => by cases h), fun q h => (by cases h), (fun f h => by cases h), (aAllc ⟨_, rfl, (rF_b (r := 1956) (by decide) rfl).mpr q0⟩ (fun f h => by cases h))⟩, [], List.mem_cons_self, fun f h => (by cases h)⟩
theorem rw_rvHMb {K : Nat → Nat} {n : Nat} {JX : (Nat → jcell) → Prop} : aGho (rF K n) fa_T K n JX ag_rvHMb := by
  refine aGho_of ⟨rfl, rfl⟩ ?_
  intro p σ ρ hH hX hA hM0
  have hG := aAG_of hA.1 (fun i e v he hv => (hA.2 i e v he hv).1)
  clear hA
  obtain ⟨v0, v1, v2, v3, v4, v5, rfl, g0, g1, g2, g3, g4, g5⟩ := rA_6 hG
  clear hG
  obtain ⟨x0, rfl, b0, d0⟩ := rG_ref (by decide) g0
  obtain ⟨x1, rfl, b1, d1⟩ := aG_int g1
  dsimp only at b1 d1
  obtain ⟨x2, rfl, b2, d2⟩ := aG_int g2
  dsimp only at b2 d2
  obtain ⟨x3, rfl, b3, d3⟩ := aG_int g3
  dsimp only at b3 d3
  obtain ⟨x4, rfl, b4, d4⟩ := aG_int g4
  dsimp only at b4 d4
  obtain ⟨x5, rfl, b5, d5⟩ := rG_ref (by decide) g5
  obtain ⟨m1, m2, m3, m4⟩ := hM0
  obtain ⟨M, hM⟩ := rMe_ex hH b0 d0
  obtain ⟨a0, c0, fs0, w0, e1, s0, t0, e4⟩ := m1 (0, 2, 5) (List.mem_of_getElem? (i := 0) rfl)
  obtain rfl : x0 = a0 := Sum.inl.inj (Option.some.inj (Sum.inr.inj (Sum.inr.inj (Option.some.inj (show some (rR x0) = some _ from e1)))))
  obtain rfl : rR x5 = w0 := Option.some.inj (show some (rR x5) = some w0 from e4)
  clear e1 e4
  obtain ⟨a, mc0, ty0, gc0, ic0, e1, sc0, jc0, e4, e5⟩ := m2 (5, ([(1, 1)], 0), 3) (List.mem_of_getElem? (i := 0) rfl)
  obtain rfl : x5 = a := Sum.inl.inj (Option.some.inj (Sum.inr.inj (Sum.inr.inj (Option.some.inj (show some (rR x5) = some _ from e1)))))
  obtain ⟨gc0, rfl⟩ : ∃ g, gc0 = .inl g := by
    rcases gc0 with g | g
    · exact ⟨g, rfl⟩
    · exact absurd (show some (rI x3) = some (.inr (.inl (g ic0))) from e5) (fun h => by cases h)
  have sc0 : σ x5 = .inl (ty0, mc0, .inl gc0) := sc0
  have ec0 : x3 = gc0 ic0 := Sum.inl.inj (Option.some.inj (show some (rI x3) = some _ from e5))
  have kc0 : (ic0 : Int) = (1 * x1.toInt + 0) + 0 := by
    obtain ⟨z, e6, e7⟩ := e4
    obtain rfl : (1 * x1.toInt + 0) = z := Option.some.inj (show some (1 * x1.toInt + 0) = some z from e6)
    exact e7
  clear e1 e4 e5
  have l0 : 0 ≤ (-1 * x2.toInt + (1 * x3.toInt + 0)) + -1 := by
    obtain ⟨z, e6, e7⟩ := m3 ([(2, -1), (3, 1)], -1) (List.mem_of_getElem? (i := 0) rfl)
    obtain rfl : (-1 * x2.toInt + (1 * x3.toInt + 0)) = z := Option.some.inj (show some (-1 * x2.toInt + (1 * x3.toInt + 0)) = some z from e6)
    exact e7
  have y0 : M x1.toInt = x3.toInt := rMg_c hM s0 t0 sc0 (by omega) (by omega) (by omega) ec0
  clear m1 m2 m3 m4
  have q0 : rB K n p 122 [rR x0, rI x1, rI x2, rI x4] σ := ro_122.mpr ⟨_, hM, by
    omega⟩
  exact ⟨p, fun _ => rfl, ⟨(fun q h => by cases h), fun q h => (by cases h), (fun f h => by cases h), (aAllc ⟨_, rfl, (rF_b (r := 1956) (by decide) rfl).mpr q0⟩ (fun f h => by cases h))⟩, [], List.mem_cons_self, fun f h => (by cases h)⟩
theorem rw_rvHM0 {K : Nat → Nat} {n : Nat} {JX : (Nat → jcell) → Prop} : aGho (rF K n) fa_T K n JX ag_rvHM0 := by
  refine aGho_of ⟨rfl, rfl⟩ ?_
  intro p σ ρ hH hX hA hM0
  have hG := aAG_of hA.1 (fun i e v he hv => (hA.2 i e v he hv).1)
  clear hA
  obtain ⟨v0, v1, v2, v3, rfl, g0, g1, g2, g3⟩ := rA_4 hG
  clear hG
  obtain ⟨x0, rfl, b0, d0⟩ := rG_ref (by decide) g0
  obtain ⟨x1, rfl, b1, d1⟩ := aG_int g1
  dsimp only at b1 d1
  obtain ⟨x2, rfl, b2, d2⟩ := aG_int g2
  dsimp only at b2 d2
  obtain ⟨x3, rfl, b3, d3⟩ := aG_int g3
  dsimp only at b3 d3
  obtain ⟨m1, m2, m3, m4⟩ := hM0
  obtain ⟨M, hM⟩ := rMe_ex hH b0 d0
  clear m1 m2 m3 m4
  have q0 : rB K n p 122 [rR x0, rI x1, rI x2, rI x3] σ := ro_122.mpr ⟨_, hM, by
    omega⟩
  exact ⟨p, fun _ => rfl, ⟨(fun q h => by cases h), fun q h => (by cases h), (fun f h => by cases h), (aAllc ⟨_, rfl, (rF_b (r := 1956) (by decide) rfl).mpr q0⟩ (fun f h => by cases h))⟩, [], List.mem_cons_self, fun f h => (by cases h)⟩
theorem rw_rvCLX {K : Nat → Nat} {n : Nat} {JX : (Nat → jcell) → Prop} : aGho (rF K n) fa_T K n JX ag_rvCLX := by
  refine aGho_of ⟨rfl, rfl⟩ ?_
  intro p σ ρ hH hX hA hM0
  have hG := aAG_of hA.1 (fun i e v he hv => (hA.2 i e v he hv).1)
  clear hA
  obtain ⟨v0, v1, rfl, g0, g1⟩ := rA_2 hG
  clear hG
  obtain ⟨x0, rfl, b0, d0⟩ := aG_int g0
  dsimp only at b0 d0
  obtain ⟨x1, rfl, b1, d1⟩ := aG_int g1
  dsimp only at b1 d1
  obtain ⟨m1, m2, m3, m4⟩ := hM0
  clear m1 m2 m3 m4
  have q0 : rB K n p 135 [rI x0, rI x1] σ := ro_135.mpr (by
    trivial)
  exact ⟨p, fun _ => rfl, ⟨(fun q h => by cases h), fun q h => (by cases h), (fun f h => by cases h), (aAllc ⟨_, rfl, (rF_b (r := 2162) (by decide) rfl).mpr q0⟩ (fun f h => by cases h))⟩, [], List.mem_cons_self, fun f h => (by cases h)⟩
theorem rw_rvFL0 {K : Nat → Nat} {n : Nat} {JX : (Nat → jcell) → Prop} : aGho (rF K n) fa_T K n JX ag_rvFL0 := by
  refine aGho_of ⟨rfl, rfl⟩ ?_
  intro p σ ρ hH hX hA hM0
  have hG := aAG_of hA.1 (fun i e v he hv => (hA.2 i e v he hv).1)
  clear hA
  obtain ⟨v0, v1, v2, v3, v4, rfl, g0, g1, g2, g3, g4⟩ := rA_5 hG
  clear hG
  obtain ⟨x0, rfl, b0, d0⟩ := rG_ref (by decide) g0
  obtain ⟨x1, rfl, b1, d1⟩ := aG_int g1
  dsimp only at b1 d1
  obtain ⟨x2, rfl, b2, d2⟩ := aG_int g2
  dsimp only at b2 d2
  obtain ⟨x3, rfl, b3, d3⟩ := aG_int g3
  dsimp only at b3 d3
  obtain ⟨x4, rfl, b4, d4⟩ := aG_int g4
  dsimp only at b4 d4
  obtain ⟨m1, m2, m3, m4⟩ := hM0
  obtain ⟨M, hM⟩ := rMe_ex hH b0 d0
  have f0 : rB K n p 120 [rI x1, rI x2, rI x3, rI x4] σ := by
    obtain ⟨w, e6, e7⟩ := m4 (1924, [1, 2, 3, 4]) (List.mem_of_getElem? (i := 0) rfl)
    obtain rfl : [rI x1, rI x2, rI x3, rI x4] = w := Option.some.inj (show some [rI x1, rI x2, rI x3, rI x4] = some w from e6)
    exact (rF_b (r := 1924) (by decide) rfl).mp e7
  have f0 := ro_120.mp f0
  clear m1 m2 m3 m4
  have q0 : rB K n p 123 [rR x0, rI x1, rI x2, rI x3, rI x4] σ := ro_123.mpr ⟨_, hM, by
    intro m h
    rw [← f0]
    exact h⟩
  exact ⟨p, fun _ => rfl, ⟨(fun q h => by cases h), fun q h => (by cases h), (fun f h => by cases h), (aAllc ⟨_, rfl, (rF_b (r := 1973) (by decide) rfl).mpr q0⟩ (fun f h => by cases h))⟩, [], List.mem_cons_self, fun f h => (by cases h)⟩
theorem rw_rvFLz {K : Nat → Nat} {n : Nat} {JX : (Nat → jcell) → Prop} : aGho (rF K n) fa_T K n JX ag_rvFLz := by
  refine aGho_of ⟨rfl, rfl⟩ ?_
  intro p σ ρ hH hX hA hM0
  have hG := aAG_of hA.1 (fun i e v he hv => (hA.2 i e v he hv).1)
  clear hA
  obtain ⟨v0, v1, v2, v3, v4, v5, v6, rfl, g0, g1, g2, g3, g4, g5, g6⟩ := rA_7 hG
  clear hG
  obtain ⟨x0, rfl, b0, d0⟩ := rG_ref (by decide) g0
  obtain ⟨x1, rfl, b1, d1⟩ := aG_int g1
  dsimp only at b1 d1
  obtain ⟨x2, rfl, b2, d2⟩ := aG_int g2
  dsimp only at b2 d2
  obtain ⟨x3, rfl, b3, d3⟩ := aG_int g3
  dsimp only at b3 d3
  obtain ⟨x4, rfl, b4, d4⟩ := aG_int g4
  dsimp only at b4 d4
  obtain ⟨x5, rfl, b5, d5⟩ := aG_int g5
  dsimp only at b5 d5
  obtain ⟨x6, rfl, b6, d6⟩ := rG_ref (by decide) g6
  obtain ⟨m1, m2, m3, m4⟩ := hM0
  obtain ⟨M, hM⟩ := rMe_ex hH b0 d0
  obtain ⟨a0, c0, fs0, w0, e1, s0, t0, e4⟩ := m1 (0, 2, 6) (List.mem_of_getElem? (i := 0) rfl)
  obtain rfl : x0 = a0 := Sum.inl.inj (Option.some.inj (Sum.inr.inj (Sum.inr.inj (Option.some.inj (show some (rR x0) = some _ from e1)))))
  obtain rfl : rR x6 = w0 := Option.some.inj (show some (rR x6) = some w0 from e4)
  clear e1 e4
  obtain ⟨a, mc0, ty0, gc0, ic0, e1, sc0, jc0, e4, e5⟩ := m2 (6, ([(4, 1)], 0), 5) (List.mem_of_getElem? (i := 0) rfl)
  obtain rfl : x6 = a := Sum.inl.inj (Option.some.inj (Sum.inr.inj (Sum.inr.inj (Option.some.inj (show some (rR x6) = some _ from e1)))))
  obtain ⟨gc0, rfl⟩ : ∃ g, gc0 = .inl g := by
    rcases gc0 with g | g
    · exact ⟨g, rfl⟩
    · exact absurd (show some (rI x5) = some (.inr (.inl (g ic0))) from e5) (fun h => by cases h)
  have sc0 : σ x6 = .inl (ty0, mc0, .inl gc0) := sc0
  have ec0 : x5 = gc0 ic0 := Sum.inl.inj (Option.some.inj (show some (rI x5) = some _ from e5))
  have kc0 : (ic0 : Int) = (1 * x4.toInt + 0) + 0 := by
    obtain ⟨z, e6, e7⟩ := e4
    obtain rfl : (1 * x4.toInt + 0) = z := Option.some.inj (show some (1 * x4.toInt + 0) = some z from e6)
    exact e7
  clear e1 e4 e5
  have y0 : M x4.toInt = x5.toInt := rMg_c hM s0 t0 sc0 (by omega) (by omega) (by omega) ec0
  have f0 : rB K n p 123 [rR x0, rI x1, rI x2, rI x3, rI x4] σ := by
    obtain ⟨w, e6, e7⟩ := m4 (1973, [0, 1, 2, 3, 4]) (List.mem_of_getElem? (i := 0) rfl)
    obtain rfl : [rR x0, rI x1, rI x2, rI x3, rI x4] = w := Option.some.inj (show some [rR x0, rI x1, rI x2, rI x3, rI x4] = some w from e6)
    exact (rF_b (r := 1973) (by decide) rfl).mp e7
  obtain ⟨M9, h9, f0⟩ := ro_123.mp f0
  obtain rfl := rMg_u hM h9
  clear h9
  clear m1 m2 m3 m4
  have q0 : rB K n p 124 [rR x0, rI x1, rI x2, rI x3, rI x4] σ := ro_124.mpr ⟨_, hM, by
    intro m h
    exact f0 m (rGf_n (by omega) (by omega) h)⟩
  exact ⟨p, fun _ => rfl, ⟨(fun q h => by cases h), fun q h => (by cases h), (fun f h => by cases h), (aAllc ⟨_, rfl, (rF_b (r := 1989) (by decide) rfl).mpr q0⟩ (fun f h => by cases h))⟩, [], List.mem_cons_self, fun f h => (by cases h)⟩
theorem rw_rvFLn {K : Nat → Nat} {n : Nat} {JX : (Nat → jcell) → Prop} : aGho (rF K n) fa_T K n JX ag_rvFLn := by
  refine aGho_of ⟨rfl, rfl⟩ ?_
  intro p σ ρ hH hX hA hM0
  have hG := aAG_of hA.1 (fun i e v he hv => (hA.2 i e v he hv).1)
  clear hA
  obtain ⟨v0, v1, v2, v3, v4, v5, rfl, g0, g1, g2, g3, g4, g5⟩ := rA_6 hG
  clear hG
  obtain ⟨x0, rfl, b0, d0⟩ := rG_ref (by decide) g0
  obtain ⟨x1, rfl, b1, d1⟩ := aG_int g1
  dsimp only at b1 d1
  obtain ⟨x2, rfl, b2, d2⟩ := aG_int g2
  dsimp only at b2 d2
  obtain ⟨x3, rfl, b3, d3⟩ := aG_int g3
  dsimp only at b3 d3
  obtain ⟨x4, rfl, b4, d4⟩ := aG_int g4
  dsimp only at b4 d4
  obtain ⟨x5, rfl, b5, d5⟩ := aG_int g5
  dsimp only at b5 d5
  obtain ⟨m1, m2, m3, m4⟩ := hM0
  obtain ⟨M, hM⟩ := rMe_ex hH b0 d0
  have f0 : rB K n p 124 [rR x0, rI x1, rI x2, rI x3, rI x4] σ := by
    obtain ⟨w, e6, e7⟩ := m4 (1989, [0, 1, 2, 3, 4]) (List.mem_of_getElem? (i := 0) rfl)
    obtain rfl : [rR x0, rI x1, rI x2, rI x3, rI x4] = w := Option.some.inj (show some [rR x0, rI x1, rI x2, rI x3, rI x4] = some w from e6)
    exact (rF_b (r := 1989) (by decide) rfl).mp e7
  obtain ⟨M9, h9, f0⟩ := ro_124.mp f0
  obtain rfl := rMg_u hM h9
  clear h9
  have f1 : rB K n p 120 [rI x4, rI x2, rI x3, rI x5] σ := by
    obtain ⟨w, e6, e7⟩ := m4 (1924, [4, 2, 3, 5]) (List.mem_of_getElem? (i := 1) rfl)
    obtain rfl : [rI x4, rI x2, rI x3, rI x5] = w := Option.some.inj (show some [rI x4, rI x2, rI x3, rI x5] = some w from e6)
    exact (rF_b (r := 1924) (by decide) rfl).mp e7
  have f1 := ro_120.mp f1
  clear m1 m2 m3 m4
  have q0 : rB K n p 123 [rR x0, rI x1, rI x2, rI x3, rI x5] σ := ro_123.mpr ⟨_, hM, by
    intro m h
    rw [f1] at h
    exact f0 m h⟩
  exact ⟨p, fun _ => rfl, ⟨(fun q h => by cases h), fun q h => (by cases h), (fun f h => by cases h), (aAllc ⟨_, rfl, (rF_b (r := 1973) (by decide) rfl).mpr q0⟩ (fun f h => by cases h))⟩, [], List.mem_cons_self, fun f h => (by cases h)⟩
theorem rw_rvFE0 {K : Nat → Nat} {n : Nat} {JX : (Nat → jcell) → Prop} : aGho (rF K n) fa_T K n JX ag_rvFE0 := by
  refine aGho_of ⟨rfl, rfl⟩ ?_
  intro p σ ρ hH hX hA hM0
  have hG := aAG_of hA.1 (fun i e v he hv => (hA.2 i e v he hv).1)
  clear hA
  obtain ⟨v0, v1, v2, v3, v4, v5, rfl, g0, g1, g2, g3, g4, g5⟩ := rA_6 hG
  clear hG
  obtain ⟨x0, rfl, b0, d0⟩ := rG_ref (by decide) g0
  obtain ⟨x1, rfl, b1, d1⟩ := aG_int g1
  dsimp only at b1 d1
  obtain ⟨x2, rfl, b2, d2⟩ := aG_int g2
  dsimp only at b2 d2
  obtain ⟨x3, rfl, b3, d3⟩ := aG_int g3
  dsimp only at b3 d3
  obtain ⟨x4, rfl, b4, d4⟩ := aG_int g4
  dsimp only at b4 d4
  obtain ⟨x5, rfl, b5, d5⟩ := aG_int g5
  dsimp only at b5 d5
  obtain ⟨m1, m2, m3, m4⟩ := hM0
  obtain ⟨M, hM⟩ := rMe_ex hH b0 d0
  have f0 : rB K n p 123 [rR x0, rI x1, rI x2, rI x3, rI x4] σ := by
    obtain ⟨w, e6, e7⟩ := m4 (1973, [0, 1, 2, 3, 4]) (List.mem_of_getElem? (i := 0) rfl)
    obtain rfl : [rR x0, rI x1, rI x2, rI x3, rI x4] = w := Option.some.inj (show some [rR x0, rI x1, rI x2, rI x3, rI x4] = some w from e6)
    exact (rF_b (r := 1973) (by decide) rfl).mp e7
  obtain ⟨M9, h9, f0⟩ := ro_123.mp f0
  obtain rfl := rMg_u hM h9
  clear h9
  clear m1 m2 m3 m4
  have q0 : rB K n p 125 [rR x0, rI x1, rI x2, rI x3, rI x5] σ := ro_125.mpr ⟨_, hM, by
    have h := f0 0 (rGf_o (by omega))
    rw [show x5.toInt = 0 by omega]
    exact h⟩
  exact ⟨p, fun _ => rfl, ⟨(fun q h => by cases h), fun q h => (by cases h), (fun f h => by cases h), (aAllc ⟨_, rfl, (rF_b (r := 2005) (by decide) rfl).mpr q0⟩ (fun f h => by cases h))⟩, [], List.mem_cons_self, fun f h => (by cases h)⟩
theorem rw_rvFE1 {K : Nat → Nat} {n : Nat} {JX : (Nat → jcell) → Prop} : aGho (rF K n) fa_T K n JX ag_rvFE1 := by
  refine aGho_of ⟨rfl, rfl⟩ ?_
  intro p σ ρ hH hX hA hM0
  have hG := aAG_of hA.1 (fun i e v he hv => (hA.2 i e v he hv).1)
  clear hA
  obtain ⟨v0, v1, v2, v3, v4, v5, v6, rfl, g0, g1, g2, g3, g4, g5, g6⟩ := rA_7 hG
  clear hG
  obtain ⟨x0, rfl, b0, d0⟩ := rG_ref (by decide) g0
  obtain ⟨x1, rfl, b1, d1⟩ := aG_int g1
  dsimp only at b1 d1
  obtain ⟨x2, rfl, b2, d2⟩ := aG_int g2
  dsimp only at b2 d2
  obtain ⟨x3, rfl, b3, d3⟩ := aG_int g3
  dsimp only at b3 d3
  obtain ⟨x4, rfl, b4, d4⟩ := aG_int g4
  dsimp only at b4 d4
  obtain ⟨x5, rfl, b5, d5⟩ := aG_int g5
  dsimp only at b5 d5
  obtain ⟨x6, rfl, b6, d6⟩ := rG_ref (by decide) g6
  obtain ⟨m1, m2, m3, m4⟩ := hM0
  obtain ⟨M, hM⟩ := rMe_ex hH b0 d0
  obtain ⟨a0, c0, fs0, w0, e1, s0, t0, e4⟩ := m1 (0, 2, 6) (List.mem_of_getElem? (i := 0) rfl)
  obtain rfl : x0 = a0 := Sum.inl.inj (Option.some.inj (Sum.inr.inj (Sum.inr.inj (Option.some.inj (show some (rR x0) = some _ from e1)))))
  obtain rfl : rR x6 = w0 := Option.some.inj (show some (rR x6) = some w0 from e4)
  clear e1 e4
  obtain ⟨a, mc0, ty0, gc0, ic0, e1, sc0, jc0, e4, e5⟩ := m2 (6, ([(4, 1)], 0), 5) (List.mem_of_getElem? (i := 0) rfl)
  obtain rfl : x6 = a := Sum.inl.inj (Option.some.inj (Sum.inr.inj (Sum.inr.inj (Option.some.inj (show some (rR x6) = some _ from e1)))))
  obtain ⟨gc0, rfl⟩ : ∃ g, gc0 = .inl g := by
    rcases gc0 with g | g
    · exact ⟨g, rfl⟩
    · exact absurd (show some (rI x5) = some (.inr (.inl (g ic0))) from e5) (fun h => by cases h)
  have sc0 : σ x6 = .inl (ty0, mc0, .inl gc0) := sc0
  have ec0 : x5 = gc0 ic0 := Sum.inl.inj (Option.some.inj (show some (rI x5) = some _ from e5))
  have kc0 : (ic0 : Int) = (1 * x4.toInt + 0) + 0 := by
    obtain ⟨z, e6, e7⟩ := e4
    obtain rfl : (1 * x4.toInt + 0) = z := Option.some.inj (show some (1 * x4.toInt + 0) = some z from e6)
    exact e7
  clear e1 e4 e5
  have y0 : M x4.toInt = x5.toInt := rMg_c hM s0 t0 sc0 (by omega) (by omega) (by omega) ec0
  have f0 : rB K n p 123 [rR x0, rI x1, rI x2, rI x3, rI x4] σ := by
    obtain ⟨w, e6, e7⟩ := m4 (1973, [0, 1, 2, 3, 4]) (List.mem_of_getElem? (i := 0) rfl)
    obtain rfl : [rR x0, rI x1, rI x2, rI x3, rI x4] = w := Option.some.inj (show some [rR x0, rI x1, rI x2, rI x3, rI x4] = some w from e6)
    exact (rF_b (r := 1973) (by decide) rfl).mp e7
  obtain ⟨M9, h9, f0⟩ := ro_123.mp f0
  obtain rfl := rMg_u hM h9
  clear h9
  clear m1 m2 m3 m4
  have q0 : rB K n p 125 [rR x0, rI x1, rI x2, rI x3, rI x5] σ := ro_125.mpr ⟨_, hM, by
    exact f0 _ (rGf_s (by omega) y0 (by omega))⟩
  exact ⟨p, fun _ => rfl, ⟨(fun q h => by cases h), fun q h => (by cases h), (fun f h => by cases h), (aAllc ⟨_, rfl, (rF_b (r := 2005) (by decide) rfl).mpr q0⟩ (fun f h => by cases h))⟩, [], List.mem_cons_self, fun f h => (by cases h)⟩
theorem rw_rvP1n {K : Nat → Nat} {n : Nat} {JX : (Nat → jcell) → Prop} : aGho (rF K n) fa_T K n JX ag_rvP1n := by
  refine aGho_of ⟨rfl, rfl⟩ ?_
  intro p σ ρ hH hX hA hM0
  have hG := aAG_of hA.1 (fun i e v he hv => (hA.2 i e v he hv).1)
  clear hA
  obtain ⟨v0, v1, v2, v3, v4, v5, v6, v7, v8, rfl, g0, g1, g2, g3, g4, g5, g6, g7, g8⟩ := rA_9 hG
  clear hG
  obtain ⟨x0, rfl, b0, d0⟩ := rG_ref (by decide) g0
  obtain ⟨x1, rfl, b1, d1⟩ := aG_int g1
  dsimp only at b1 d1
  obtain ⟨x2, rfl, b2, d2⟩ := aG_int g2
  dsimp only at b2 d2
  obtain ⟨x3, rfl, b3, d3⟩ := aG_int g3
  dsimp only at b3 d3
  obtain ⟨x4, rfl, b4, d4⟩ := aG_int g4
  dsimp only at b4 d4
  obtain ⟨x5, rfl, b5, d5⟩ := aG_int g5
  dsimp only at b5 d5
  obtain ⟨x6, rfl, b6, d6⟩ := aG_int g6
  dsimp only at b6 d6
  obtain ⟨x7, rfl, b7, d7⟩ := aG_int g7
  dsimp only at b7 d7
  obtain ⟨x8, rfl, b8, d8⟩ := aG_int g8
  dsimp only at b8 d8
  obtain ⟨m1, m2, m3, m4⟩ := hM0
  obtain ⟨M, hM⟩ := rMe_ex hH b0 d0
  have l0 : 0 ≤ (1 * x3.toInt + (-8 * x2.toInt + 0)) + 0 := by
    obtain ⟨z, e6, e7⟩ := m3 ([(3, 1), (2, -8)], 0) (List.mem_of_getElem? (i := 0) rfl)
    obtain rfl : (1 * x3.toInt + (-8 * x2.toInt + 0)) = z := Option.some.inj (show some (1 * x3.toInt + (-8 * x2.toInt + 0)) = some z from e6)
    exact e7
  have l1 : 0 ≤ (-1 * x3.toInt + (8 * x2.toInt + 0)) + 0 := by
    obtain ⟨z, e6, e7⟩ := m3 ([(3, -1), (2, 8)], 0) (List.mem_of_getElem? (i := 1) rfl)
    obtain rfl : (-1 * x3.toInt + (8 * x2.toInt + 0)) = z := Option.some.inj (show some (-1 * x3.toInt + (8 * x2.toInt + 0)) = some z from e6)
    exact e7
  have l2 : 0 ≤ (1 * x5.toInt + (-2 * x2.toInt + 0)) + 1 := by
    obtain ⟨z, e6, e7⟩ := m3 ([(5, 1), (2, -2)], 1) (List.mem_of_getElem? (i := 2) rfl)
    obtain rfl : (1 * x5.toInt + (-2 * x2.toInt + 0)) = z := Option.some.inj (show some (1 * x5.toInt + (-2 * x2.toInt + 0)) = some z from e6)
    exact e7
  have l3 : 0 ≤ (-1 * x5.toInt + (2 * x2.toInt + 0)) + -1 := by
    obtain ⟨z, e6, e7⟩ := m3 ([(5, -1), (2, 2)], -1) (List.mem_of_getElem? (i := 3) rfl)
    obtain rfl : (-1 * x5.toInt + (2 * x2.toInt + 0)) = z := Option.some.inj (show some (-1 * x5.toInt + (2 * x2.toInt + 0)) = some z from e6)
    exact e7
  have l4 : 0 ≤ (1 * x7.toInt + (-1 * x3.toInt + 0)) + -1 := by
    obtain ⟨z, e6, e7⟩ := m3 ([(7, 1), (3, -1)], -1) (List.mem_of_getElem? (i := 4) rfl)
    obtain rfl : (1 * x7.toInt + (-1 * x3.toInt + 0)) = z := Option.some.inj (show some (1 * x7.toInt + (-1 * x3.toInt + 0)) = some z from e6)
    exact e7
  have l5 : 0 ≤ (-1 * x7.toInt + (1 * x3.toInt + 0)) + 1 := by
    obtain ⟨z, e6, e7⟩ := m3 ([(7, -1), (3, 1)], 1) (List.mem_of_getElem? (i := 5) rfl)
    obtain rfl : (-1 * x7.toInt + (1 * x3.toInt + 0)) = z := Option.some.inj (show some (-1 * x7.toInt + (1 * x3.toInt + 0)) = some z from e6)
    exact e7
  have f0 : rB K n p 120 [rI x1, rI x4, rI x5, rI x6] σ := by
    obtain ⟨w, e6, e7⟩ := m4 (1924, [1, 4, 5, 6]) (List.mem_of_getElem? (i := 0) rfl)
    obtain rfl : [rI x1, rI x4, rI x5, rI x6] = w := Option.some.inj (show some [rI x1, rI x4, rI x5, rI x6] = some w from e6)
    exact (rF_b (r := 1924) (by decide) rfl).mp e7
  have f0 := ro_120.mp f0
  have f1 : rB K n p 122 [rR x0, rI x6, rI x7, rI x8] σ := by
    obtain ⟨w, e6, e7⟩ := m4 (1956, [0, 6, 7, 8]) (List.mem_of_getElem? (i := 1) rfl)
    obtain rfl : [rR x0, rI x6, rI x7, rI x8] = w := Option.some.inj (show some [rR x0, rI x6, rI x7, rI x8] = some w from e6)
    exact (rF_b (r := 1956) (by decide) rfl).mp e7
  obtain ⟨M9, h9, f1⟩ := ro_122.mp f1
  obtain rfl := rMg_u hM h9
  clear h9
  clear m1 m2 m3 m4
  have q0 : rB K n p 126 [rR x0, rI x1, rI x2] σ := ro_126.mpr ⟨_, hM, by
    have e : rSp x1.toInt (-1) (2 * x2.toInt - 1) = x6.toInt := by rw [f0, show x4.toInt = -1 by omega, show x5.toInt = 2 * x2.toInt - 1 by omega]
    have hn : ¬ rP1 M x1.toInt x2.toInt (-1) := by
      unfold rP1
      rw [e]
      omega
    exact hn⟩
  exact ⟨p, fun _ => rfl, ⟨(fun q h => by cases h), fun q h => (by cases h), (fun f h => by cases h), (aAllc ⟨_, rfl, (rF_b (r := 2019) (by decide) rfl).mpr q0⟩ (fun f h => by cases h))⟩, [], List.mem_cons_self, fun f h => (by cases h)⟩
theorem rw_rvP2n {K : Nat → Nat} {n : Nat} {JX : (Nat → jcell) → Prop} : aGho (rF K n) fa_T K n JX ag_rvP2n := by
  refine aGho_of ⟨rfl, rfl⟩ ?_
  intro p σ ρ hH hX hA hM0
  have hG := aAG_of hA.1 (fun i e v he hv => (hA.2 i e v he hv).1)
  clear hA
  obtain ⟨v0, v1, v2, v3, v4, v5, v6, v7, v8, rfl, g0, g1, g2, g3, g4, g5, g6, g7, g8⟩ := rA_9 hG
  clear hG
  obtain ⟨x0, rfl, b0, d0⟩ := rG_ref (by decide) g0
  obtain ⟨x1, rfl, b1, d1⟩ := aG_int g1
  dsimp only at b1 d1
  obtain ⟨x2, rfl, b2, d2⟩ := aG_int g2
  dsimp only at b2 d2
  obtain ⟨x3, rfl, b3, d3⟩ := aG_int g3
  dsimp only at b3 d3
  obtain ⟨x4, rfl, b4, d4⟩ := aG_int g4
  dsimp only at b4 d4
  obtain ⟨x5, rfl, b5, d5⟩ := aG_int g5
  dsimp only at b5 d5
  obtain ⟨x6, rfl, b6, d6⟩ := aG_int g6
  dsimp only at b6 d6
  obtain ⟨x7, rfl, b7, d7⟩ := aG_int g7
  dsimp only at b7 d7
  obtain ⟨x8, rfl, b8, d8⟩ := aG_int g8
  dsimp only at b8 d8
  obtain ⟨m1, m2, m3, m4⟩ := hM0
  obtain ⟨M, hM⟩ := rMe_ex hH b0 d0
  have l0 : 0 ≤ (1 * x3.toInt + (-8 * x2.toInt + 0)) + 0 := by
    obtain ⟨z, e6, e7⟩ := m3 ([(3, 1), (2, -8)], 0) (List.mem_of_getElem? (i := 0) rfl)
    obtain rfl : (1 * x3.toInt + (-8 * x2.toInt + 0)) = z := Option.some.inj (show some (1 * x3.toInt + (-8 * x2.toInt + 0)) = some z from e6)
    exact e7
  have l1 : 0 ≤ (-1 * x3.toInt + (8 * x2.toInt + 0)) + 0 := by
    obtain ⟨z, e6, e7⟩ := m3 ([(3, -1), (2, 8)], 0) (List.mem_of_getElem? (i := 1) rfl)
    obtain rfl : (-1 * x3.toInt + (8 * x2.toInt + 0)) = z := Option.some.inj (show some (-1 * x3.toInt + (8 * x2.toInt + 0)) = some z from e6)
    exact e7
  have l2 : 0 ≤ (1 * x5.toInt + (-2 * x2.toInt + 0)) + 1 := by
    obtain ⟨z, e6, e7⟩ := m3 ([(5, 1), (2, -2)], 1) (List.mem_of_getElem? (i := 2) rfl)
    obtain rfl : (1 * x5.toInt + (-2 * x2.toInt + 0)) = z := Option.some.inj (show some (1 * x5.toInt + (-2 * x2.toInt + 0)) = some z from e6)
    exact e7
  have l3 : 0 ≤ (-1 * x5.toInt + (2 * x2.toInt + 0)) + -1 := by
    obtain ⟨z, e6, e7⟩ := m3 ([(5, -1), (2, 2)], -1) (List.mem_of_getElem? (i := 3) rfl)
    obtain rfl : (-1 * x5.toInt + (2 * x2.toInt + 0)) = z := Option.some.inj (show some (-1 * x5.toInt + (2 * x2.toInt + 0)) = some z from e6)
    exact e7
  have l4 : 0 ≤ (1 * x7.toInt + (-1 * x3.toInt + 0)) + -1 := by
    obtain ⟨z, e6, e7⟩ := m3 ([(7, 1), (3, -1)], -1) (List.mem_of_getElem? (i := 4) rfl)
    obtain rfl : (1 * x7.toInt + (-1 * x3.toInt + 0)) = z := Option.some.inj (show some (1 * x7.toInt + (-1 * x3.toInt + 0)) = some z from e6)
    exact e7
  have l5 : 0 ≤ (-1 * x7.toInt + (1 * x3.toInt + 0)) + 1 := by
    obtain ⟨z, e6, e7⟩ := m3 ([(7, -1), (3, 1)], 1) (List.mem_of_getElem? (i := 5) rfl)
    obtain rfl : (-1 * x7.toInt + (1 * x3.toInt + 0)) = z := Option.some.inj (show some (-1 * x7.toInt + (1 * x3.toInt + 0)) = some z from e6)
    exact e7
  have f0 : rB K n p 120 [rI x1, rI x4, rI x5, rI x6] σ := by
    obtain ⟨w, e6, e7⟩ := m4 (1924, [1, 4, 5, 6]) (List.mem_of_getElem? (i := 0) rfl)
    obtain rfl : [rI x1, rI x4, rI x5, rI x6] = w := Option.some.inj (show some [rI x1, rI x4, rI x5, rI x6] = some w from e6)
    exact (rF_b (r := 1924) (by decide) rfl).mp e7
  have f0 := ro_120.mp f0
  have f1 : rB K n p 122 [rR x0, rI x6, rI x7, rI x8] σ := by
    obtain ⟨w, e6, e7⟩ := m4 (1956, [0, 6, 7, 8]) (List.mem_of_getElem? (i := 1) rfl)
    obtain rfl : [rR x0, rI x6, rI x7, rI x8] = w := Option.some.inj (show some [rR x0, rI x6, rI x7, rI x8] = some w from e6)
    exact (rF_b (r := 1956) (by decide) rfl).mp e7
  obtain ⟨M9, h9, f1⟩ := ro_122.mp f1
  obtain rfl := rMg_u hM h9
  clear h9
  have f2 : rB K n p 126 [rR x0, rI x1, rI x2] σ := by
    obtain ⟨w, e6, e7⟩ := m4 (2019, [0, 1, 2]) (List.mem_of_getElem? (i := 2) rfl)
    obtain rfl : [rR x0, rI x1, rI x2] = w := Option.some.inj (show some [rR x0, rI x1, rI x2] = some w from e6)
    exact (rF_b (r := 2019) (by decide) rfl).mp e7
  obtain ⟨M9, h9, f2⟩ := ro_126.mp f2
  obtain rfl := rMg_u hM h9
  clear h9
  clear m1 m2 m3 m4
  have q0 : rB K n p 127 [rR x0, rI x1, rI x2] σ := ro_127.mpr ⟨_, hM, by
    have e : rSp x1.toInt (1) (2 * x2.toInt - 1) = x6.toInt := by rw [f0, show x4.toInt = 1 by omega, show x5.toInt = 2 * x2.toInt - 1 by omega]
    have hn : ¬ rP1 M x1.toInt x2.toInt (1) := by
      unfold rP1
      rw [e]
      omega
    exact ⟨f2, hn⟩⟩
  exact ⟨p, fun _ => rfl, ⟨(fun q h => by cases h), fun q h => (by cases h), (fun f h => by cases h), (aAllc ⟨_, rfl, (rF_b (r := 2035) (by decide) rfl).mpr q0⟩ (fun f h => by cases h))⟩, [], List.mem_cons_self, fun f h => (by cases h)⟩
theorem rw_rvP1y {K : Nat → Nat} {n : Nat} {JX : (Nat → jcell) → Prop} : aGho (rF K n) fa_T K n JX ag_rvP1y := by
  refine aGho_of ⟨rfl, rfl⟩ ?_
  intro p σ ρ hH hX hA hM0
  have hG := aAG_of hA.1 (fun i e v he hv => (hA.2 i e v he hv).1)
  clear hA
  obtain ⟨v0, v1, v2, v3, v4, v5, v6, v7, v8, rfl, g0, g1, g2, g3, g4, g5, g6, g7, g8⟩ := rA_9 hG
  clear hG
  obtain ⟨x0, rfl, b0, d0⟩ := rG_ref (by decide) g0
  obtain ⟨x1, rfl, b1, d1⟩ := aG_int g1
  dsimp only at b1 d1
  obtain ⟨x2, rfl, b2, d2⟩ := aG_int g2
  dsimp only at b2 d2
  obtain ⟨x3, rfl, b3, d3⟩ := aG_int g3
  dsimp only at b3 d3
  obtain ⟨x4, rfl, b4, d4⟩ := aG_int g4
  dsimp only at b4 d4
  obtain ⟨x5, rfl, b5, d5⟩ := aG_int g5
  dsimp only at b5 d5
  obtain ⟨x6, rfl, b6, d6⟩ := aG_int g6
  dsimp only at b6 d6
  obtain ⟨x7, rfl, b7, d7⟩ := aG_int g7
  dsimp only at b7 d7
  obtain ⟨x8, rfl, b8, d8⟩ := aG_int g8
  dsimp only at b8 d8
  obtain ⟨m1, m2, m3, m4⟩ := hM0
  obtain ⟨M, hM⟩ := rMe_ex hH b0 d0
  have l0 : 0 ≤ (1 * x3.toInt + (-8 * x2.toInt + 0)) + 0 := by
    obtain ⟨z, e6, e7⟩ := m3 ([(3, 1), (2, -8)], 0) (List.mem_of_getElem? (i := 0) rfl)
    obtain rfl : (1 * x3.toInt + (-8 * x2.toInt + 0)) = z := Option.some.inj (show some (1 * x3.toInt + (-8 * x2.toInt + 0)) = some z from e6)
    exact e7
  have l1 : 0 ≤ (-1 * x3.toInt + (8 * x2.toInt + 0)) + 0 := by
    obtain ⟨z, e6, e7⟩ := m3 ([(3, -1), (2, 8)], 0) (List.mem_of_getElem? (i := 1) rfl)
    obtain rfl : (-1 * x3.toInt + (8 * x2.toInt + 0)) = z := Option.some.inj (show some (-1 * x3.toInt + (8 * x2.toInt + 0)) = some z from e6)
    exact e7
  have l2 : 0 ≤ (1 * x5.toInt + (-2 * x2.toInt + 0)) + 1 := by
    obtain ⟨z, e6, e7⟩ := m3 ([(5, 1), (2, -2)], 1) (List.mem_of_getElem? (i := 2) rfl)
    obtain rfl : (1 * x5.toInt + (-2 * x2.toInt + 0)) = z := Option.some.inj (show some (1 * x5.toInt + (-2 * x2.toInt + 0)) = some z from e6)
    exact e7
  have l3 : 0 ≤ (-1 * x5.toInt + (2 * x2.toInt + 0)) + -1 := by
    obtain ⟨z, e6, e7⟩ := m3 ([(5, -1), (2, 2)], -1) (List.mem_of_getElem? (i := 3) rfl)
    obtain rfl : (-1 * x5.toInt + (2 * x2.toInt + 0)) = z := Option.some.inj (show some (-1 * x5.toInt + (2 * x2.toInt + 0)) = some z from e6)
    exact e7
  have l4 : 0 ≤ (1 * x7.toInt + (-1 * x3.toInt + 0)) + -1 := by
    obtain ⟨z, e6, e7⟩ := m3 ([(7, 1), (3, -1)], -1) (List.mem_of_getElem? (i := 4) rfl)
    obtain rfl : (1 * x7.toInt + (-1 * x3.toInt + 0)) = z := Option.some.inj (show some (1 * x7.toInt + (-1 * x3.toInt + 0)) = some z from e6)
    exact e7
  have l5 : 0 ≤ (-1 * x7.toInt + (1 * x3.toInt + 0)) + 1 := by
    obtain ⟨z, e6, e7⟩ := m3 ([(7, -1), (3, 1)], 1) (List.mem_of_getElem? (i := 5) rfl)
    obtain rfl : (-1 * x7.toInt + (1 * x3.toInt + 0)) = z := Option.some.inj (show some (-1 * x7.toInt + (1 * x3.toInt + 0)) = some z from e6)
    exact e7
  have f0 : rB K n p 120 [rI x1, rI x4, rI x5, rI x6] σ := by
    obtain ⟨w, e6, e7⟩ := m4 (1924, [1, 4, 5, 6]) (List.mem_of_getElem? (i := 0) rfl)
    obtain rfl : [rI x1, rI x4, rI x5, rI x6] = w := Option.some.inj (show some [rI x1, rI x4, rI x5, rI x6] = some w from e6)
    exact (rF_b (r := 1924) (by decide) rfl).mp e7
  have f0 := ro_120.mp f0
  have f1 : rB K n p 122 [rR x0, rI x6, rI x7, rI x8] σ := by
    obtain ⟨w, e6, e7⟩ := m4 (1956, [0, 6, 7, 8]) (List.mem_of_getElem? (i := 1) rfl)
    obtain rfl : [rR x0, rI x6, rI x7, rI x8] = w := Option.some.inj (show some [rR x0, rI x6, rI x7, rI x8] = some w from e6)
    exact (rF_b (r := 1956) (by decide) rfl).mp e7
  obtain ⟨M9, h9, f1⟩ := ro_122.mp f1
  obtain rfl := rMg_u hM h9
  clear h9
  clear m1 m2 m3 m4
  have q0 : rB K n p 131 [rR x0, rI x1, rI x2] σ := ro_131.mpr ⟨_, hM, by
    have e : rSp x1.toInt (-1) (2 * x2.toInt - 1) = x6.toInt := by rw [f0, show x4.toInt = -1 by omega, show x5.toInt = 2 * x2.toInt - 1 by omega]
    have hn : rP1 M x1.toInt x2.toInt (-1) := by
      unfold rP1
      rw [e]
      omega
    exact Or.inl hn⟩
  exact ⟨p, fun _ => rfl, ⟨(fun q h => by cases h), fun q h => (by cases h), (fun f h => by cases h), (aAllc ⟨_, rfl, (rF_b (r := 2099) (by decide) rfl).mpr q0⟩ (fun f h => by cases h))⟩, [], List.mem_cons_self, fun f h => (by cases h)⟩
theorem rw_rvP2y {K : Nat → Nat} {n : Nat} {JX : (Nat → jcell) → Prop} : aGho (rF K n) fa_T K n JX ag_rvP2y := by
  refine aGho_of ⟨rfl, rfl⟩ ?_
  intro p σ ρ hH hX hA hM0
  have hG := aAG_of hA.1 (fun i e v he hv => (hA.2 i e v he hv).1)
  clear hA
  obtain ⟨v0, v1, v2, v3, v4, v5, v6, v7, v8, rfl, g0, g1, g2, g3, g4, g5, g6, g7, g8⟩ := rA_9 hG
  clear hG
  obtain ⟨x0, rfl, b0, d0⟩ := rG_ref (by decide) g0
  obtain ⟨x1, rfl, b1, d1⟩ := aG_int g1
  dsimp only at b1 d1
  obtain ⟨x2, rfl, b2, d2⟩ := aG_int g2
  dsimp only at b2 d2
  obtain ⟨x3, rfl, b3, d3⟩ := aG_int g3
  dsimp only at b3 d3
  obtain ⟨x4, rfl, b4, d4⟩ := aG_int g4
  dsimp only at b4 d4
  obtain ⟨x5, rfl, b5, d5⟩ := aG_int g5
  dsimp only at b5 d5
  obtain ⟨x6, rfl, b6, d6⟩ := aG_int g6
  dsimp only at b6 d6
  obtain ⟨x7, rfl, b7, d7⟩ := aG_int g7
  dsimp only at b7 d7
  obtain ⟨x8, rfl, b8, d8⟩ := aG_int g8
  dsimp only at b8 d8
  obtain ⟨m1, m2, m3, m4⟩ := hM0
  obtain ⟨M, hM⟩ := rMe_ex hH b0 d0
  have l0 : 0 ≤ (1 * x3.toInt + (-8 * x2.toInt + 0)) + 0 := by
    obtain ⟨z, e6, e7⟩ := m3 ([(3, 1), (2, -8)], 0) (List.mem_of_getElem? (i := 0) rfl)
    obtain rfl : (1 * x3.toInt + (-8 * x2.toInt + 0)) = z := Option.some.inj (show some (1 * x3.toInt + (-8 * x2.toInt + 0)) = some z from e6)
    exact e7
  have l1 : 0 ≤ (-1 * x3.toInt + (8 * x2.toInt + 0)) + 0 := by
    obtain ⟨z, e6, e7⟩ := m3 ([(3, -1), (2, 8)], 0) (List.mem_of_getElem? (i := 1) rfl)
    obtain rfl : (-1 * x3.toInt + (8 * x2.toInt + 0)) = z := Option.some.inj (show some (-1 * x3.toInt + (8 * x2.toInt + 0)) = some z from e6)
    exact e7
  have l2 : 0 ≤ (1 * x5.toInt + (-2 * x2.toInt + 0)) + 1 := by
    obtain ⟨z, e6, e7⟩ := m3 ([(5, 1), (2, -2)], 1) (List.mem_of_getElem? (i := 2) rfl)
    obtain rfl : (1 * x5.toInt + (-2 * x2.toInt + 0)) = z := Option.some.inj (show some (1 * x5.toInt + (-2 * x2.toInt + 0)) = some z from e6)
    exact e7
  have l3 : 0 ≤ (-1 * x5.toInt + (2 * x2.toInt + 0)) + -1 := by
    obtain ⟨z, e6, e7⟩ := m3 ([(5, -1), (2, 2)], -1) (List.mem_of_getElem? (i := 3) rfl)
    obtain rfl : (-1 * x5.toInt + (2 * x2.toInt + 0)) = z := Option.some.inj (show some (-1 * x5.toInt + (2 * x2.toInt + 0)) = some z from e6)
    exact e7
  have l4 : 0 ≤ (1 * x7.toInt + (-1 * x3.toInt + 0)) + -1 := by
    obtain ⟨z, e6, e7⟩ := m3 ([(7, 1), (3, -1)], -1) (List.mem_of_getElem? (i := 4) rfl)
    obtain rfl : (1 * x7.toInt + (-1 * x3.toInt + 0)) = z := Option.some.inj (show some (1 * x7.toInt + (-1 * x3.toInt + 0)) = some z from e6)
    exact e7
  have l5 : 0 ≤ (-1 * x7.toInt + (1 * x3.toInt + 0)) + 1 := by
    obtain ⟨z, e6, e7⟩ := m3 ([(7, -1), (3, 1)], 1) (List.mem_of_getElem? (i := 5) rfl)
    obtain rfl : (-1 * x7.toInt + (1 * x3.toInt + 0)) = z := Option.some.inj (show some (-1 * x7.toInt + (1 * x3.toInt + 0)) = some z from e6)
    exact e7
  have f0 : rB K n p 120 [rI x1, rI x4, rI x5, rI x6] σ := by
    obtain ⟨w, e6, e7⟩ := m4 (1924, [1, 4, 5, 6]) (List.mem_of_getElem? (i := 0) rfl)
    obtain rfl : [rI x1, rI x4, rI x5, rI x6] = w := Option.some.inj (show some [rI x1, rI x4, rI x5, rI x6] = some w from e6)
    exact (rF_b (r := 1924) (by decide) rfl).mp e7
  have f0 := ro_120.mp f0
  have f1 : rB K n p 122 [rR x0, rI x6, rI x7, rI x8] σ := by
    obtain ⟨w, e6, e7⟩ := m4 (1956, [0, 6, 7, 8]) (List.mem_of_getElem? (i := 1) rfl)
    obtain rfl : [rR x0, rI x6, rI x7, rI x8] = w := Option.some.inj (show some [rR x0, rI x6, rI x7, rI x8] = some w from e6)
    exact (rF_b (r := 1956) (by decide) rfl).mp e7
  obtain ⟨M9, h9, f1⟩ := ro_122.mp f1
  obtain rfl := rMg_u hM h9
  clear h9
  clear m1 m2 m3 m4
  have q0 : rB K n p 131 [rR x0, rI x1, rI x2] σ := ro_131.mpr ⟨_, hM, by
    have e : rSp x1.toInt (1) (2 * x2.toInt - 1) = x6.toInt := by rw [f0, show x4.toInt = 1 by omega, show x5.toInt = 2 * x2.toInt - 1 by omega]
    have hn : rP1 M x1.toInt x2.toInt (1) := by
      unfold rP1
      rw [e]
      omega
    exact Or.inr (Or.inl hn)⟩
  exact ⟨p, fun _ => rfl, ⟨(fun q h => by cases h), fun q h => (by cases h), (fun f h => by cases h), (aAllc ⟨_, rfl, (rF_b (r := 2099) (by decide) rfl).mpr q0⟩ (fun f h => by cases h))⟩, [], List.mem_cons_self, fun f h => (by cases h)⟩
theorem rw_rvNf0 {K : Nat → Nat} {n : Nat} {JX : (Nat → jcell) → Prop} : aGho (rF K n) fa_T K n JX ag_rvNf0 := by
  refine aGho_of ⟨rfl, rfl⟩ ?_
  intro p σ ρ hH hX hA hM0
  have hG := aAG_of hA.1 (fun i e v he hv => (hA.2 i e v he hv).1)
  clear hA
  obtain ⟨v0, v1, v2, v3, rfl, g0, g1, g2, g3⟩ := rA_4 hG
  clear hG
  obtain ⟨x0, rfl, b0, d0⟩ := rG_ref (by decide) g0
  obtain ⟨x1, rfl, b1, d1⟩ := aG_int g1
  dsimp only at b1 d1
  obtain ⟨x2, rfl, b2, d2⟩ := aG_int g2
  dsimp only at b2 d2
  obtain ⟨x3, rfl, b3, d3⟩ := aG_int g3
  dsimp only at b3 d3
  obtain ⟨m1, m2, m3, m4⟩ := hM0
  obtain ⟨M, hM⟩ := rMe_ex hH b0 d0
  have f0 : rB K n p 127 [rR x0, rI x1, rI x2] σ := by
    obtain ⟨w, e6, e7⟩ := m4 (2035, [0, 1, 2]) (List.mem_of_getElem? (i := 0) rfl)
    obtain rfl : [rR x0, rI x1, rI x2] = w := Option.some.inj (show some [rR x0, rI x1, rI x2] = some w from e6)
    exact (rF_b (r := 2035) (by decide) rfl).mp e7
  obtain ⟨M9, h9, f0⟩ := ro_127.mp f0
  obtain rfl := rMg_u hM h9
  clear h9
  clear m1 m2 m3 m4
  have q0 : rB K n p 128 [rR x0, rI x1, rI x2, rI x3] σ := ro_128.mpr ⟨_, hM, by
    exact ⟨f0.1, f0.2, fun f r h1 h2 => absurd h2 (by omega)⟩⟩
  exact ⟨p, fun _ => rfl, ⟨(fun q h => by cases h), fun q h => (by cases h), (fun f h => by cases h), (aAllc ⟨_, rfl, (rF_b (r := 2052) (by decide) rfl).mpr q0⟩ (fun f h => by cases h))⟩, [], List.mem_cons_self, fun f h => (by cases h)⟩
theorem rw_rvNr0 {K : Nat → Nat} {n : Nat} {JX : (Nat → jcell) → Prop} : aGho (rF K n) fa_T K n JX ag_rvNr0 := by
  refine aGho_of ⟨rfl, rfl⟩ ?_
  intro p σ ρ hH hX hA hM0
  have hG := aAG_of hA.1 (fun i e v he hv => (hA.2 i e v he hv).1)
  clear hA
  obtain ⟨v0, v1, v2, v3, v4, rfl, g0, g1, g2, g3, g4⟩ := rA_5 hG
  clear hG
  obtain ⟨x0, rfl, b0, d0⟩ := rG_ref (by decide) g0
  obtain ⟨x1, rfl, b1, d1⟩ := aG_int g1
  dsimp only at b1 d1
  obtain ⟨x2, rfl, b2, d2⟩ := aG_int g2
  dsimp only at b2 d2
  obtain ⟨x3, rfl, b3, d3⟩ := aG_int g3
  dsimp only at b3 d3
  obtain ⟨x4, rfl, b4, d4⟩ := aG_int g4
  dsimp only at b4 d4
  obtain ⟨m1, m2, m3, m4⟩ := hM0
  obtain ⟨M, hM⟩ := rMe_ex hH b0 d0
  have f0 : rB K n p 128 [rR x0, rI x1, rI x2, rI x3] σ := by
    obtain ⟨w, e6, e7⟩ := m4 (2052, [0, 1, 2, 3]) (List.mem_of_getElem? (i := 0) rfl)
    obtain rfl : [rR x0, rI x1, rI x2, rI x3] = w := Option.some.inj (show some [rR x0, rI x1, rI x2, rI x3] = some w from e6)
    exact (rF_b (r := 2052) (by decide) rfl).mp e7
  obtain ⟨M9, h9, f0⟩ := ro_128.mp f0
  obtain rfl := rMg_u hM h9
  clear h9
  clear m1 m2 m3 m4
  have q0 : rB K n p 129 [rR x0, rI x1, rI x2, rI x3, rI x4] σ := ro_129.mpr ⟨_, hM, by
    exact ⟨f0.1, f0.2.1, f0.2.2, fun r h1 h2 => absurd h2 (by omega)⟩⟩
  exact ⟨p, fun _ => rfl, ⟨(fun q h => by cases h), fun q h => (by cases h), (fun f h => by cases h), (aAllc ⟨_, rfl, (rF_b (r := 2069) (by decide) rfl).mpr q0⟩ (fun f h => by cases h))⟩, [], List.mem_cons_self, fun f h => (by cases h)⟩
theorem rw_rvNrn {K : Nat → Nat} {n : Nat} {JX : (Nat → jcell) → Prop} : aGho (rF K n) fa_T K n JX ag_rvNrn := by
  refine aGho_of ⟨rfl, rfl⟩ ?_
  intro p σ ρ hH hX hA hM0
  have hG := aAG_of hA.1 (fun i e v he hv => (hA.2 i e v he hv).1)
  clear hA
  obtain ⟨v0, v1, v2, v3, v4, v5, rfl, g0, g1, g2, g3, g4, g5⟩ := rA_6 hG
  clear hG
  obtain ⟨x0, rfl, b0, d0⟩ := rG_ref (by decide) g0
  obtain ⟨x1, rfl, b1, d1⟩ := aG_int g1
  dsimp only at b1 d1
  obtain ⟨x2, rfl, b2, d2⟩ := aG_int g2
  dsimp only at b2 d2
  obtain ⟨x3, rfl, b3, d3⟩ := aG_int g3
  dsimp only at b3 d3
  obtain ⟨x4, rfl, b4, d4⟩ := aG_int g4
  dsimp only at b4 d4
  obtain ⟨x5, rfl, b5, d5⟩ := aG_int g5
  dsimp only at b5 d5
  obtain ⟨m1, m2, m3, m4⟩ := hM0
  obtain ⟨M, hM⟩ := rMe_ex hH b0 d0
  have l0 : 0 ≤ (1 * x5.toInt + (-1 * x4.toInt + 0)) + -1 := by
    obtain ⟨z, e6, e7⟩ := m3 ([(5, 1), (4, -1)], -1) (List.mem_of_getElem? (i := 0) rfl)
    obtain rfl : (1 * x5.toInt + (-1 * x4.toInt + 0)) = z := Option.some.inj (show some (1 * x5.toInt + (-1 * x4.toInt + 0)) = some z from e6)
    exact e7
  have l1 : 0 ≤ (-1 * x5.toInt + (1 * x4.toInt + 0)) + 1 := by
    obtain ⟨z, e6, e7⟩ := m3 ([(5, -1), (4, 1)], 1) (List.mem_of_getElem? (i := 1) rfl)
    obtain rfl : (-1 * x5.toInt + (1 * x4.toInt + 0)) = z := Option.some.inj (show some (-1 * x5.toInt + (1 * x4.toInt + 0)) = some z from e6)
    exact e7
  have f0 : rB K n p 130 [rR x0, rI x1, rI x2, rI x3, rI x4] σ := by
    obtain ⟨w, e6, e7⟩ := m4 (2085, [0, 1, 2, 3, 4]) (List.mem_of_getElem? (i := 0) rfl)
    obtain rfl : [rR x0, rI x1, rI x2, rI x3, rI x4] = w := Option.some.inj (show some [rR x0, rI x1, rI x2, rI x3, rI x4] = some w from e6)
    exact (rF_b (r := 2085) (by decide) rfl).mp e7
  obtain ⟨M9, h9, f0⟩ := ro_130.mp f0
  obtain rfl := rMg_u hM h9
  clear h9
  clear m1 m2 m3 m4
  have q0 : rB K n p 129 [rR x0, rI x1, rI x2, rI x3, rI x5] σ := ro_129.mpr ⟨_, hM, by
    exact ⟨f0.1, f0.2.1, f0.2.2.1, fun r h1 h2 => f0.2.2.2 r h1 (by omega)⟩⟩
  exact ⟨p, fun _ => rfl, ⟨(fun q h => by cases h), fun q h => (by cases h), (fun f h => by cases h), (aAllc ⟨_, rfl, (rF_b (r := 2069) (by decide) rfl).mpr q0⟩ (fun f h => by cases h))⟩, [], List.mem_cons_self, fun f h => (by cases h)⟩
theorem rw_rvNfn {K : Nat → Nat} {n : Nat} {JX : (Nat → jcell) → Prop} : aGho (rF K n) fa_T K n JX ag_rvNfn := by
  refine aGho_of ⟨rfl, rfl⟩ ?_
  intro p σ ρ hH hX hA hM0
  have hG := aAG_of hA.1 (fun i e v he hv => (hA.2 i e v he hv).1)
  clear hA
  obtain ⟨v0, v1, v2, v3, v4, v5, rfl, g0, g1, g2, g3, g4, g5⟩ := rA_6 hG
  clear hG
  obtain ⟨x0, rfl, b0, d0⟩ := rG_ref (by decide) g0
  obtain ⟨x1, rfl, b1, d1⟩ := aG_int g1
  dsimp only at b1 d1
  obtain ⟨x2, rfl, b2, d2⟩ := aG_int g2
  dsimp only at b2 d2
  obtain ⟨x3, rfl, b3, d3⟩ := aG_int g3
  dsimp only at b3 d3
  obtain ⟨x4, rfl, b4, d4⟩ := aG_int g4
  dsimp only at b4 d4
  obtain ⟨x5, rfl, b5, d5⟩ := aG_int g5
  dsimp only at b5 d5
  obtain ⟨m1, m2, m3, m4⟩ := hM0
  obtain ⟨M, hM⟩ := rMe_ex hH b0 d0
  have l0 : 0 ≤ (1 * x5.toInt + (-1 * x3.toInt + 0)) + -1 := by
    obtain ⟨z, e6, e7⟩ := m3 ([(5, 1), (3, -1)], -1) (List.mem_of_getElem? (i := 0) rfl)
    obtain rfl : (1 * x5.toInt + (-1 * x3.toInt + 0)) = z := Option.some.inj (show some (1 * x5.toInt + (-1 * x3.toInt + 0)) = some z from e6)
    exact e7
  have l1 : 0 ≤ (-1 * x5.toInt + (1 * x3.toInt + 0)) + 1 := by
    obtain ⟨z, e6, e7⟩ := m3 ([(5, -1), (3, 1)], 1) (List.mem_of_getElem? (i := 1) rfl)
    obtain rfl : (-1 * x5.toInt + (1 * x3.toInt + 0)) = z := Option.some.inj (show some (-1 * x5.toInt + (1 * x3.toInt + 0)) = some z from e6)
    exact e7
  have f0 : rB K n p 129 [rR x0, rI x1, rI x2, rI x3, rI x4] σ := by
    obtain ⟨w, e6, e7⟩ := m4 (2069, [0, 1, 2, 3, 4]) (List.mem_of_getElem? (i := 0) rfl)
    obtain rfl : [rR x0, rI x1, rI x2, rI x3, rI x4] = w := Option.some.inj (show some [rR x0, rI x1, rI x2, rI x3, rI x4] = some w from e6)
    exact (rF_b (r := 2069) (by decide) rfl).mp e7
  obtain ⟨M9, h9, f0⟩ := ro_129.mp f0
  obtain rfl := rMg_u hM h9
  clear h9
  clear m1 m2 m3 m4
  have q0 : rB K n p 128 [rR x0, rI x1, rI x2, rI x5] σ := ro_128.mpr ⟨_, hM, by
    refine ⟨f0.1, f0.2.1, fun f r h1 h2 h3 h4 => ?_⟩
    by_cases c : f = x3.toInt
    · rw [c]; exact f0.2.2.2 r h3 (by omega)
    · exact f0.2.2.1 f r h1 (by omega) h3 h4⟩
  exact ⟨p, fun _ => rfl, ⟨(fun q h => by cases h), fun q h => (by cases h), (fun f h => by cases h), (aAllc ⟨_, rfl, (rF_b (r := 2052) (by decide) rfl).mpr q0⟩ (fun f h => by cases h))⟩, [], List.mem_cons_self, fun f h => (by cases h)⟩
theorem rw_rvNe {K : Nat → Nat} {n : Nat} {JX : (Nat → jcell) → Prop} : aGho (rF K n) fa_T K n JX ag_rvNe := by
  refine aGho_of ⟨rfl, rfl⟩ ?_
  intro p σ ρ hH hX hA hM0
  have hG := aAG_of hA.1 (fun i e v he hv => (hA.2 i e v he hv).1)
  clear hA
  obtain ⟨v0, v1, v2, v3, v4, rfl, g0, g1, g2, g3, g4⟩ := rA_5 hG
  clear hG
  obtain ⟨x0, rfl, b0, d0⟩ := rG_ref (by decide) g0
  obtain ⟨x1, rfl, b1, d1⟩ := aG_int g1
  dsimp only at b1 d1
  obtain ⟨x2, rfl, b2, d2⟩ := aG_int g2
  dsimp only at b2 d2
  obtain ⟨x3, rfl, b3, d3⟩ := aG_int g3
  dsimp only at b3 d3
  obtain ⟨x4, rfl, b4, d4⟩ := aG_int g4
  dsimp only at b4 d4
  obtain ⟨m1, m2, m3, m4⟩ := hM0
  obtain ⟨M, hM⟩ := rMe_ex hH b0 d0
  have f0 : rB K n p 128 [rR x0, rI x1, rI x2, rI x3] σ := by
    obtain ⟨w, e6, e7⟩ := m4 (2052, [0, 1, 2, 3]) (List.mem_of_getElem? (i := 0) rfl)
    obtain rfl : [rR x0, rI x1, rI x2, rI x3] = w := Option.some.inj (show some [rR x0, rI x1, rI x2, rI x3] = some w from e6)
    exact (rF_b (r := 2052) (by decide) rfl).mp e7
  obtain ⟨M9, h9, f0⟩ := ro_128.mp f0
  obtain rfl := rMg_u hM h9
  clear h9
  clear m1 m2 m3 m4
  have q0 : rB K n p 132 [rR x0, rI x1, rI x2, rI x4] σ := ro_132.mpr ⟨_, hM, by
    refine Or.inr ⟨by omega, fun h => ?_⟩
    rcases h with h | h | ⟨f, r, h1, h2, h3, h4, h5⟩
    · exact f0.1 h
    · exact f0.2.1 h
    · exact f0.2.2 f r h1 (by omega) h3 h4 h5⟩
  exact ⟨p, fun _ => rfl, ⟨(fun q h => by cases h), fun q h => (by cases h), (fun f h => by cases h), (aAllc ⟨_, rfl, (rF_b (r := 2116) (by decide) rfl).mpr q0⟩ (fun f h => by cases h))⟩, [], List.mem_cons_self, fun f h => (by cases h)⟩
theorem rw_rvYe {K : Nat → Nat} {n : Nat} {JX : (Nat → jcell) → Prop} : aGho (rF K n) fa_T K n JX ag_rvYe := by
  refine aGho_of ⟨rfl, rfl⟩ ?_
  intro p σ ρ hH hX hA hM0
  have hG := aAG_of hA.1 (fun i e v he hv => (hA.2 i e v he hv).1)
  clear hA
  obtain ⟨v0, v1, v2, v3, rfl, g0, g1, g2, g3⟩ := rA_4 hG
  clear hG
  obtain ⟨x0, rfl, b0, d0⟩ := rG_ref (by decide) g0
  obtain ⟨x1, rfl, b1, d1⟩ := aG_int g1
  dsimp only at b1 d1
  obtain ⟨x2, rfl, b2, d2⟩ := aG_int g2
  dsimp only at b2 d2
  obtain ⟨x3, rfl, b3, d3⟩ := aG_int g3
  dsimp only at b3 d3
  obtain ⟨m1, m2, m3, m4⟩ := hM0
  obtain ⟨M, hM⟩ := rMe_ex hH b0 d0
  have f0 : rB K n p 131 [rR x0, rI x1, rI x2] σ := by
    obtain ⟨w, e6, e7⟩ := m4 (2099, [0, 1, 2]) (List.mem_of_getElem? (i := 0) rfl)
    obtain rfl : [rR x0, rI x1, rI x2] = w := Option.some.inj (show some [rR x0, rI x1, rI x2] = some w from e6)
    exact (rF_b (r := 2099) (by decide) rfl).mp e7
  obtain ⟨M9, h9, f0⟩ := ro_131.mp f0
  obtain rfl := rMg_u hM h9
  clear h9
  clear m1 m2 m3 m4
  have q0 : rB K n p 132 [rR x0, rI x1, rI x2, rI x3] σ := ro_132.mpr ⟨_, hM, by
    exact Or.inl ⟨by omega, f0⟩⟩
  exact ⟨p, fun _ => rfl, ⟨(fun q h => by cases h), fun q h => (by cases h), (fun f h => by cases h), (aAllc ⟨_, rfl, (rF_b (r := 2116) (by decide) rfl).mpr q0⟩ (fun f h => by cases h))⟩, [], List.mem_cons_self, fun f h => (by cases h)⟩
theorem rw_rvM5u {K : Nat → Nat} {n : Nat} {JX : (Nat → jcell) → Prop} : aGho (rF K n) fa_T K n JX ag_rvM5u := by
  refine aGho_of ⟨rfl, rfl⟩ ?_
  intro p σ ρ hH hX hA hM0
  have hG := aAG_of hA.1 (fun i e v he hv => (hA.2 i e v he hv).1)
  clear hA
  obtain ⟨v0, v1, rfl, g0, g1⟩ := rA_2 hG
  clear hG
  obtain ⟨x0, rfl, b0, d0⟩ := aG_int g0
  dsimp only at b0 d0
  obtain ⟨x1, rfl, b1, d1⟩ := aG_int g1
  dsimp only at b1 d1
  obtain ⟨m1, m2, m3, m4⟩ := hM0
  have l0 : 0 ≤ (1 * x0.toInt + (-1 * x1.toInt + 0)) + -6 := by
    obtain ⟨z, e6, e7⟩ := m3 ([(0, 1), (1, -1)], -6) (List.mem_of_getElem? (i := 0) rfl)
    obtain rfl : (1 * x0.toInt + (-1 * x1.toInt + 0)) = z := Option.some.inj (show some (1 * x0.toInt + (-1 * x1.toInt + 0)) = some z from e6)
    exact e7
  clear m1 m2 m3 m4
  have q0 : rB K n p 133 [rI x0, rI x1] σ := ro_133.mpr (by
    omega)
  exact ⟨p, fun _ => rfl, ⟨(fun q h => by cases h), fun q h => (by cases h), (fun f h => by cases h), (aAllc ⟨_, rfl, (rF_b (r := 2130) (by decide) rfl).mpr q0⟩ (fun f h => by cases h))⟩, [], List.mem_cons_self, fun f h => (by cases h)⟩
theorem rw_rvM4u1 {K : Nat → Nat} {n : Nat} {JX : (Nat → jcell) → Prop} : aGho (rF K n) fa_T K n JX ag_rvM4u1 := by
  refine aGho_of ⟨rfl, rfl⟩ ?_
  intro p σ ρ hH hX hA hM0
  have hG := aAG_of hA.1 (fun i e v he hv => (hA.2 i e v he hv).1)
  clear hA
  obtain ⟨v0, v1, v2, rfl, g0, g1, g2⟩ := rA_3 hG
  clear hG
  obtain ⟨x0, rfl, b0, d0⟩ := aG_int g0
  dsimp only at b0 d0
  obtain ⟨x1, rfl, b1, d1⟩ := aG_int g1
  dsimp only at b1 d1
  obtain ⟨x2, rfl, b2, d2⟩ := aG_int g2
  dsimp only at b2 d2
  obtain ⟨m1, m2, m3, m4⟩ := hM0
  have l0 : 0 ≤ (1 * x0.toInt + (-1 * x1.toInt + 0)) + -5 := by
    obtain ⟨z, e6, e7⟩ := m3 ([(0, 1), (1, -1)], -5) (List.mem_of_getElem? (i := 0) rfl)
    obtain rfl : (1 * x0.toInt + (-1 * x1.toInt + 0)) = z := Option.some.inj (show some (1 * x0.toInt + (-1 * x1.toInt + 0)) = some z from e6)
    exact e7
  clear m1 m2 m3 m4
  have q0 : rB K n p 134 [rI x0, rI x1, rI x2] σ := ro_134.mpr (by
    omega)
  exact ⟨p, fun _ => rfl, ⟨(fun q h => by cases h), fun q h => (by cases h), (fun f h => by cases h), (aAllc ⟨_, rfl, (rF_b (r := 2147) (by decide) rfl).mpr q0⟩ (fun f h => by cases h))⟩, [], List.mem_cons_self, fun f h => (by cases h)⟩
theorem rw_rvM4u2 {K : Nat → Nat} {n : Nat} {JX : (Nat → jcell) → Prop} : aGho (rF K n) fa_T K n JX ag_rvM4u2 := by
  refine aGho_of ⟨rfl, rfl⟩ ?_
  intro p σ ρ hH hX hA hM0
  have hG := aAG_of hA.1 (fun i e v he hv => (hA.2 i e v he hv).1)
  clear hA
  obtain ⟨v0, v1, v2, rfl, g0, g1, g2⟩ := rA_3 hG
  clear hG
  obtain ⟨x0, rfl, b0, d0⟩ := aG_int g0
  dsimp only at b0 d0
  obtain ⟨x1, rfl, b1, d1⟩ := aG_int g1
  dsimp only at b1 d1
  obtain ⟨x2, rfl, b2, d2⟩ := aG_int g2
  dsimp only at b2 d2
  obtain ⟨m1, m2, m3, m4⟩ := hM0
  have l0 : 0 ≤ (1 * x0.toInt + (-1 * x1.toInt + 0)) + -4 := by
    obtain ⟨z, e6, e7⟩ := m3 ([(0, 1), (1, -1)], -4) (List.mem_of_getElem? (i := 0) rfl)
    obtain rfl : (1 * x0.toInt + (-1 * x1.toInt + 0)) = z := Option.some.inj (show some (1 * x0.toInt + (-1 * x1.toInt + 0)) = some z from e6)
    exact e7
  clear m1 m2 m3 m4
  have q0 : rB K n p 134 [rI x0, rI x1, rI x2] σ := ro_134.mpr (by
    omega)
  exact ⟨p, fun _ => rfl, ⟨(fun q h => by cases h), fun q h => (by cases h), (fun f h => by cases h), (aAllc ⟨_, rfl, (rF_b (r := 2147) (by decide) rfl).mpr q0⟩ (fun f h => by cases h))⟩, [], List.mem_cons_self, fun f h => (by cases h)⟩
theorem rw_rvM5d {K : Nat → Nat} {n : Nat} {JX : (Nat → jcell) → Prop} : aGho (rF K n) fa_T K n JX ag_rvM5d := by
  refine aGho_of ⟨rfl, rfl⟩ ?_
  intro p σ ρ hH hX hA hM0
  have hG := aAG_of hA.1 (fun i e v he hv => (hA.2 i e v he hv).1)
  clear hA
  obtain ⟨v0, v1, rfl, g0, g1⟩ := rA_2 hG
  clear hG
  obtain ⟨x0, rfl, b0, d0⟩ := aG_int g0
  dsimp only at b0 d0
  obtain ⟨x1, rfl, b1, d1⟩ := aG_int g1
  dsimp only at b1 d1
  obtain ⟨m1, m2, m3, m4⟩ := hM0
  have l0 : 0 ≤ (-1 * x0.toInt + (1 * x1.toInt + 0)) + 4 := by
    obtain ⟨z, e6, e7⟩ := m3 ([(0, -1), (1, 1)], 4) (List.mem_of_getElem? (i := 0) rfl)
    obtain rfl : (-1 * x0.toInt + (1 * x1.toInt + 0)) = z := Option.some.inj (show some (-1 * x0.toInt + (1 * x1.toInt + 0)) = some z from e6)
    exact e7
  clear m1 m2 m3 m4
  have q0 : rB K n p 133 [rI x0, rI x1] σ := ro_133.mpr (by
    omega)
  exact ⟨p, fun _ => rfl, ⟨(fun q h => by cases h), fun q h => (by cases h), (fun f h => by cases h), (aAllc ⟨_, rfl, (rF_b (r := 2130) (by decide) rfl).mpr q0⟩ (fun f h => by cases h))⟩, [], List.mem_cons_self, fun f h => (by cases h)⟩
theorem rw_rvM4d1 {K : Nat → Nat} {n : Nat} {JX : (Nat → jcell) → Prop} : aGho (rF K n) fa_T K n JX ag_rvM4d1 := by
  refine aGho_of ⟨rfl, rfl⟩ ?_
  intro p σ ρ hH hX hA hM0
  have hG := aAG_of hA.1 (fun i e v he hv => (hA.2 i e v he hv).1)
  clear hA
  obtain ⟨v0, v1, v2, rfl, g0, g1, g2⟩ := rA_3 hG
  clear hG
  obtain ⟨x0, rfl, b0, d0⟩ := aG_int g0
  dsimp only at b0 d0
  obtain ⟨x1, rfl, b1, d1⟩ := aG_int g1
  dsimp only at b1 d1
  obtain ⟨x2, rfl, b2, d2⟩ := aG_int g2
  dsimp only at b2 d2
  obtain ⟨m1, m2, m3, m4⟩ := hM0
  have l0 : 0 ≤ (-1 * x0.toInt + (1 * x1.toInt + 0)) + 3 := by
    obtain ⟨z, e6, e7⟩ := m3 ([(0, -1), (1, 1)], 3) (List.mem_of_getElem? (i := 0) rfl)
    obtain rfl : (-1 * x0.toInt + (1 * x1.toInt + 0)) = z := Option.some.inj (show some (-1 * x0.toInt + (1 * x1.toInt + 0)) = some z from e6)
    exact e7
  clear m1 m2 m3 m4
  have q0 : rB K n p 134 [rI x0, rI x1, rI x2] σ := ro_134.mpr (by
    omega)
  exact ⟨p, fun _ => rfl, ⟨(fun q h => by cases h), fun q h => (by cases h), (fun f h => by cases h), (aAllc ⟨_, rfl, (rF_b (r := 2147) (by decide) rfl).mpr q0⟩ (fun f h => by cases h))⟩, [], List.mem_cons_self, fun f h => (by cases h)⟩
theorem rw_rvM4d2 {K : Nat → Nat} {n : Nat} {JX : (Nat → jcell) → Prop} : aGho (rF K n) fa_T K n JX ag_rvM4d2 := by
  refine aGho_of ⟨rfl, rfl⟩ ?_
  intro p σ ρ hH hX hA hM0
  have hG := aAG_of hA.1 (fun i e v he hv => (hA.2 i e v he hv).1)
  clear hA
  obtain ⟨v0, v1, v2, rfl, g0, g1, g2⟩ := rA_3 hG
  clear hG
  obtain ⟨x0, rfl, b0, d0⟩ := aG_int g0
  dsimp only at b0 d0
  obtain ⟨x1, rfl, b1, d1⟩ := aG_int g1
  dsimp only at b1 d1
  obtain ⟨x2, rfl, b2, d2⟩ := aG_int g2
  dsimp only at b2 d2
  obtain ⟨m1, m2, m3, m4⟩ := hM0
  have l0 : 0 ≤ (-1 * x0.toInt + (1 * x1.toInt + 0)) + 2 := by
    obtain ⟨z, e6, e7⟩ := m3 ([(0, -1), (1, 1)], 2) (List.mem_of_getElem? (i := 0) rfl)
    obtain rfl : (-1 * x0.toInt + (1 * x1.toInt + 0)) = z := Option.some.inj (show some (-1 * x0.toInt + (1 * x1.toInt + 0)) = some z from e6)
    exact e7
  clear m1 m2 m3 m4
  have q0 : rB K n p 134 [rI x0, rI x1, rI x2] σ := ro_134.mpr (by
    omega)
  exact ⟨p, fun _ => rfl, ⟨(fun q h => by cases h), fun q h => (by cases h), (fun f h => by cases h), (aAllc ⟨_, rfl, (rF_b (r := 2147) (by decide) rfl).mpr q0⟩ (fun f h => by cases h))⟩, [], List.mem_cons_self, fun f h => (by cases h)⟩
theorem rw_rvSQ1 {K : Nat → Nat} {n : Nat} {JX : (Nat → jcell) → Prop} : aGho (rF K n) fa_T K n JX ag_rvSQ1 := by
  refine aGho_of ⟨rfl, rfl⟩ ?_
  intro p σ ρ hH hX hA hM0
  have hG := aAG_of hA.1 (fun i e v he hv => (hA.2 i e v he hv).1)
  clear hA
  obtain ⟨v0, v1, rfl, g0, g1⟩ := rA_2 hG
  clear hG
  obtain ⟨x0, rfl, b0, d0⟩ := aG_int g0
  dsimp only at b0 d0
  obtain ⟨x1, rfl, b1, d1⟩ := aG_int g1
  dsimp only at b1 d1
  obtain ⟨m1, m2, m3, m4⟩ := hM0
  have f0 : rB K n p 110 [rI x0, rI x0, rI x1] σ := by
    obtain ⟨w, e6, e7⟩ := m4 (1763, [0, 0, 1]) (List.mem_of_getElem? (i := 0) rfl)
    obtain rfl : [rI x0, rI x0, rI x1] = w := Option.some.inj (show some [rI x0, rI x0, rI x1] = some w from e6)
    exact (rF_b (r := 1763) (by decide) rfl).mp e7
  have f0 : x1 = x0 * x0 := Sum.inl.inj (ro_110.mp f0)
  clear m1 m2 m3 m4
  have r0 : 0 ≤ (1 * x1.toInt + 0) + 0 := by
    have e := rMul f0 (by omega) (by omega) (by omega) (by omega)
    have := rSqn (x := x0.toInt)
    omega
  have q0 : rB K n p 154 [rI x0, rI x1] σ := ro_154.mpr (by
    exact rMul f0 (by omega) (by omega) (by omega) (by omega))
  exact ⟨p, fun _ => rfl, ⟨(fun q h => by cases h), fun q h => (by cases h), (aAllc ⟨_, rfl, r0⟩ (fun f h => by cases h)), (aAllc ⟨_, rfl, (rF_b (r := 2466) (by decide) rfl).mpr q0⟩ (fun f h => by cases h))⟩, [], List.mem_cons_self, fun f h => (by cases h)⟩
theorem rw_rvAL {K : Nat → Nat} {n : Nat} {JX : (Nat → jcell) → Prop} : aGho (rF K n) fa_T K n JX ag_rvAL := by
  refine aGho_of ⟨rfl, rfl⟩ ?_
  intro p σ ρ hH hX hA hM0
  have hG := aAG_of hA.1 (fun i e v he hv => (hA.2 i e v he hv).1)
  clear hA
  obtain ⟨v0, v1, v2, v3, v4, rfl, g0, g1, g2, g3, g4⟩ := rA_5 hG
  clear hG
  obtain ⟨x0, rfl, b0, d0⟩ := aG_int g0
  dsimp only at b0 d0
  obtain ⟨x1, rfl, b1, d1⟩ := aG_int g1
  dsimp only at b1 d1
  obtain ⟨x2, rfl, b2, d2⟩ := aG_int g2
  dsimp only at b2 d2
  obtain ⟨x3, rfl, b3, d3⟩ := aG_int g3
  dsimp only at b3 d3
  obtain ⟨x4, rfl, b4, d4⟩ := aG_int g4
  dsimp only at b4 d4
  obtain ⟨m1, m2, m3, m4⟩ := hM0
  have l0 : 0 ≤ (1 * x4.toInt + (-1 * x2.toInt + (-1 * x3.toInt + 0))) + 0 := by
    obtain ⟨z, e6, e7⟩ := m3 ([(4, 1), (2, -1), (3, -1)], 0) (List.mem_of_getElem? (i := 0) rfl)
    obtain rfl : (1 * x4.toInt + (-1 * x2.toInt + (-1 * x3.toInt + 0))) = z := Option.some.inj (show some (1 * x4.toInt + (-1 * x2.toInt + (-1 * x3.toInt + 0))) = some z from e6)
    exact e7
  have l1 : 0 ≤ (-1 * x4.toInt + (1 * x2.toInt + (1 * x3.toInt + 0))) + 0 := by
    obtain ⟨z, e6, e7⟩ := m3 ([(4, -1), (2, 1), (3, 1)], 0) (List.mem_of_getElem? (i := 1) rfl)
    obtain rfl : (-1 * x4.toInt + (1 * x2.toInt + (1 * x3.toInt + 0))) = z := Option.some.inj (show some (-1 * x4.toInt + (1 * x2.toInt + (1 * x3.toInt + 0))) = some z from e6)
    exact e7
  have f0 : rB K n p 154 [rI x0, rI x2] σ := by
    obtain ⟨w, e6, e7⟩ := m4 (2466, [0, 2]) (List.mem_of_getElem? (i := 0) rfl)
    obtain rfl : [rI x0, rI x2] = w := Option.some.inj (show some [rI x0, rI x2] = some w from e6)
    exact (rF_b (r := 2466) (by decide) rfl).mp e7
  have f0 := ro_154.mp f0
  have f1 : rB K n p 110 [rI x1, rI x1, rI x3] σ := by
    obtain ⟨w, e6, e7⟩ := m4 (1763, [1, 1, 3]) (List.mem_of_getElem? (i := 1) rfl)
    obtain rfl : [rI x1, rI x1, rI x3] = w := Option.some.inj (show some [rI x1, rI x1, rI x3] = some w from e6)
    exact (rF_b (r := 1763) (by decide) rfl).mp e7
  have f1 : x3 = x1 * x1 := Sum.inl.inj (ro_110.mp f1)
  clear m1 m2 m3 m4
  have r0 : 0 ≤ (1 * x4.toInt + 0) + 0 := by
    have e := rMul f1 (by omega) (by omega) (by omega) (by omega)
    have h1 := rSqn (x := x1.toInt)
    have h2 := rSqn (x := x0.toInt)
    omega
  have q0 : rB K n p 155 [rI x0, rI x1, rI x4] σ := ro_155.mpr (by
    have e := rMul f1 (by omega) (by omega) (by omega) (by omega)
    rw [← f0, ← e]
    omega)
  exact ⟨p, fun _ => rfl, ⟨(fun q h => by cases h), fun q h => (by cases h), (aAllc ⟨_, rfl, r0⟩ (fun f h => by cases h)), (aAllc ⟨_, rfl, (rF_b (r := 2483) (by decide) rfl).mpr q0⟩ (fun f h => by cases h))⟩, [], List.mem_cons_self, fun f h => (by cases h)⟩
theorem rw_rvDIR {K : Nat → Nat} {n : Nat} {JX : (Nat → jcell) → Prop} : aGho (rF K n) fa_T K n JX ag_rvDIR := by
  refine aGho_of ⟨rfl, rfl⟩ ?_
  intro p σ ρ hH hX hA hM0
  have hG := aAG_of hA.1 (fun i e v he hv => (hA.2 i e v he hv).1)
  clear hA
  obtain ⟨v0, v1, v2, rfl, g0, g1, g2⟩ := rA_3 hG
  clear hG
  obtain ⟨x0, rfl, b0, d0⟩ := aG_int g0
  dsimp only at b0 d0
  obtain ⟨x1, rfl, b1, d1⟩ := aG_int g1
  dsimp only at b1 d1
  obtain ⟨x2, rfl, b2, d2⟩ := aG_int g2
  dsimp only at b2 d2
  obtain ⟨m1, m2, m3, m4⟩ := hM0
  have f0 : rB K n p 155 [rI x0, rI x1, rI x2] σ := by
    obtain ⟨w, e6, e7⟩ := m4 (2483, [0, 1, 2]) (List.mem_of_getElem? (i := 0) rfl)
    obtain rfl : [rI x0, rI x1, rI x2] = w := Option.some.inj (show some [rI x0, rI x1, rI x2] = some w from e6)
    exact (rF_b (r := 2483) (by decide) rfl).mp e7
  have f0 := ro_155.mp f0
  clear m1 m2 m3 m4
  have hd : (0 ≤ (1 * x1.toInt + 0) + -1) ∨ (0 ≤ (-1 * x1.toInt + 0) + -1) ∨ (0 ≤ (1 * x0.toInt + 0) + -1 ∧ 0 ≤ (1 * x1.toInt + 0) + 0 ∧ 0 ≤ (-1 * x1.toInt + 0) + 0) ∨ (0 ≤ (-1 * x0.toInt + 0) + -1 ∧ 0 ≤ (1 * x1.toInt + 0) + 0 ∧ 0 ≤ (-1 * x1.toInt + 0) + 0) := by
    by_cases c : x0.toInt = 0 ∧ x1.toInt = 0
    · rw [c.1, c.2] at f0
      omega
    · omega
  rcases hd with w0 | w0 | ⟨w0, w1, w2⟩ | ⟨w0, w1, w2⟩
  · exact ⟨p, fun _ => rfl, ⟨(fun q h => by cases h), fun q h => (by cases h), (fun f h => by cases h), (fun f h => by cases h)⟩, _, List.mem_of_getElem? (i := 0) rfl, (aAllc ⟨_, rfl, w0⟩ (fun f h => by cases h))⟩
  · exact ⟨p, fun _ => rfl, ⟨(fun q h => by cases h), fun q h => (by cases h), (fun f h => by cases h), (fun f h => by cases h)⟩, _, List.mem_of_getElem? (i := 1) rfl, (aAllc ⟨_, rfl, w0⟩ (fun f h => by cases h))⟩
  · exact ⟨p, fun _ => rfl, ⟨(fun q h => by cases h), fun q h => (by cases h), (fun f h => by cases h), (fun f h => by cases h)⟩, _, List.mem_of_getElem? (i := 2) rfl, (aAllc ⟨_, rfl, w0⟩ (aAllc ⟨_, rfl, w1⟩ (aAllc ⟨_, rfl, w2⟩ (fun f h => by cases h))))⟩
  · exact ⟨p, fun _ => rfl, ⟨(fun q h => by cases h), fun q h => (by cases h), (fun f h => by cases h), (fun f h => by cases h)⟩, _, List.mem_of_getElem? (i := 3) rfl, (aAllc ⟨_, rfl, w0⟩ (aAllc ⟨_, rfl, w1⟩ (aAllc ⟨_, rfl, w2⟩ (fun f h => by cases h))))⟩
theorem rw_rvN5 {K : Nat → Nat} {n : Nat} {JX : (Nat → jcell) → Prop} : aGho (rF K n) fa_T K n JX ag_rvN5 := by
  refine aGho_of ⟨rfl, rfl⟩ ?_
  intro p σ ρ hH hX hA hM0
  have hG := aAG_of hA.1 (fun i e v he hv => (hA.2 i e v he hv).1)
  clear hA
  obtain ⟨v0, v1, v2, v3, v4, v5, v6, v7, v8, v9, rfl, g0, g1, g2, g3, g4, g5, g6, g7, g8, g9⟩ := rA_10 hG
  clear hG
  obtain ⟨x0, rfl, b0, d0⟩ := rG_ref (by decide) g0
  obtain ⟨x1, rfl, b1, d1⟩ := aG_int g1
  dsimp only at b1 d1
  obtain ⟨x2, rfl, b2, d2⟩ := aG_int g2
  dsimp only at b2 d2
  obtain ⟨x3, rfl, b3, d3⟩ := aG_int g3
  dsimp only at b3 d3
  obtain ⟨x4, rfl, b4, d4⟩ := aG_int g4
  dsimp only at b4 d4
  obtain ⟨x5, rfl, b5, d5⟩ := aG_int g5
  dsimp only at b5 d5
  obtain ⟨x6, rfl, b6, d6⟩ := aG_int g6
  dsimp only at b6 d6
  obtain ⟨x7, rfl, b7, d7⟩ := aG_int g7
  dsimp only at b7 d7
  obtain ⟨x8, rfl, b8, d8⟩ := aG_int g8
  dsimp only at b8 d8
  obtain ⟨x9, rfl, b9, d9⟩ := aG_int g9
  dsimp only at b9 d9
  obtain ⟨m1, m2, m3, m4⟩ := hM0
  obtain ⟨M, hM⟩ := rMe_ex hH b0 d0
  have l0 : 0 ≤ (1 * x3.toInt + (-8 * x2.toInt + 0)) + 0 := by
    obtain ⟨z, e6, e7⟩ := m3 ([(3, 1), (2, -8)], 0) (List.mem_of_getElem? (i := 0) rfl)
    obtain rfl : (1 * x3.toInt + (-8 * x2.toInt + 0)) = z := Option.some.inj (show some (1 * x3.toInt + (-8 * x2.toInt + 0)) = some z from e6)
    exact e7
  have l1 : 0 ≤ (-1 * x3.toInt + (8 * x2.toInt + 0)) + 0 := by
    obtain ⟨z, e6, e7⟩ := m3 ([(3, -1), (2, 8)], 0) (List.mem_of_getElem? (i := 1) rfl)
    obtain rfl : (-1 * x3.toInt + (8 * x2.toInt + 0)) = z := Option.some.inj (show some (-1 * x3.toInt + (8 * x2.toInt + 0)) = some z from e6)
    exact e7
  have l2 : 0 ≤ (1 * x8.toInt + (-1 * x3.toInt + 0)) + -2 := by
    obtain ⟨z, e6, e7⟩ := m3 ([(8, 1), (3, -1)], -2) (List.mem_of_getElem? (i := 2) rfl)
    obtain rfl : (1 * x8.toInt + (-1 * x3.toInt + 0)) = z := Option.some.inj (show some (1 * x8.toInt + (-1 * x3.toInt + 0)) = some z from e6)
    exact e7
  have l3 : 0 ≤ (-1 * x8.toInt + (1 * x3.toInt + 0)) + 2 := by
    obtain ⟨z, e6, e7⟩ := m3 ([(8, -1), (3, 1)], 2) (List.mem_of_getElem? (i := 3) rfl)
    obtain rfl : (-1 * x8.toInt + (1 * x3.toInt + 0)) = z := Option.some.inj (show some (-1 * x8.toInt + (1 * x3.toInt + 0)) = some z from e6)
    exact e7
  have f0 : rB K n p 129 [rR x0, rI x1, rI x2, rI x4, rI x5] σ := by
    obtain ⟨w, e6, e7⟩ := m4 (2069, [0, 1, 2, 4, 5]) (List.mem_of_getElem? (i := 0) rfl)
    obtain rfl : [rR x0, rI x1, rI x2, rI x4, rI x5] = w := Option.some.inj (show some [rR x0, rI x1, rI x2, rI x4, rI x5] = some w from e6)
    exact (rF_b (r := 2069) (by decide) rfl).mp e7
  obtain ⟨M9, h9, f0⟩ := ro_129.mp f0
  obtain rfl := rMg_u hM h9
  clear h9
  have f1 : rB K n p 155 [rI x4, rI x5, rI x6] σ := by
    obtain ⟨w, e6, e7⟩ := m4 (2483, [4, 5, 6]) (List.mem_of_getElem? (i := 1) rfl)
    obtain rfl : [rI x4, rI x5, rI x6] = w := Option.some.inj (show some [rI x4, rI x5, rI x6] = some w from e6)
    exact (rF_b (r := 2483) (by decide) rfl).mp e7
  have f1 := ro_155.mp f1
  have f2 : rB K n p 120 [rI x1, rI x4, rI x5, rI x7] σ := by
    obtain ⟨w, e6, e7⟩ := m4 (1924, [1, 4, 5, 7]) (List.mem_of_getElem? (i := 2) rfl)
    obtain rfl : [rI x1, rI x4, rI x5, rI x7] = w := Option.some.inj (show some [rI x1, rI x4, rI x5, rI x7] = some w from e6)
    exact (rF_b (r := 1924) (by decide) rfl).mp e7
  have f2 := ro_120.mp f2
  have f3 : rB K n p 122 [rR x0, rI x7, rI x8, rI x9] σ := by
    obtain ⟨w, e6, e7⟩ := m4 (1956, [0, 7, 8, 9]) (List.mem_of_getElem? (i := 3) rfl)
    obtain rfl : [rR x0, rI x7, rI x8, rI x9] = w := Option.some.inj (show some [rR x0, rI x7, rI x8, rI x9] = some w from e6)
    exact (rF_b (r := 1956) (by decide) rfl).mp e7
  obtain ⟨M9, h9, f3⟩ := ro_122.mp f3
  obtain rfl := rMg_u hM h9
  clear h9
  clear m1 m2 m3 m4
  have q0 : rB K n p 130 [rR x0, rI x1, rI x2, rI x4, rI x5] σ := ro_130.mpr ⟨_, hM, by
    refine ⟨f0.1, f0.2.1, f0.2.2.1, fun r h1 h2 => ?_⟩
    by_cases c : r = x5.toInt
    · rw [c]
      intro h
      unfold rA1 at h
      rw [← f1] at h
      rw [← f2] at h
      rcases h with ⟨-, h3, h4⟩ | ⟨-, h3, -⟩
      · omega
      · omega
    · exact f0.2.2.2 r h1 (by omega)⟩
  exact ⟨p, fun _ => rfl, ⟨(fun q h => by cases h), fun q h => (by cases h), (fun f h => by cases h), (aAllc ⟨_, rfl, (rF_b (r := 2085) (by decide) rfl).mpr q0⟩ (fun f h => by cases h))⟩, [], List.mem_cons_self, fun f h => (by cases h)⟩
theorem rw_rvY5 {K : Nat → Nat} {n : Nat} {JX : (Nat → jcell) → Prop} : aGho (rF K n) fa_T K n JX ag_rvY5 := by
  refine aGho_of ⟨rfl, rfl⟩ ?_
  intro p σ ρ hH hX hA hM0
  have hG := aAG_of hA.1 (fun i e v he hv => (hA.2 i e v he hv).1)
  clear hA
  obtain ⟨v0, v1, v2, v3, v4, v5, v6, v7, v8, v9, rfl, g0, g1, g2, g3, g4, g5, g6, g7, g8, g9⟩ := rA_10 hG
  clear hG
  obtain ⟨x0, rfl, b0, d0⟩ := rG_ref (by decide) g0
  obtain ⟨x1, rfl, b1, d1⟩ := aG_int g1
  dsimp only at b1 d1
  obtain ⟨x2, rfl, b2, d2⟩ := aG_int g2
  dsimp only at b2 d2
  obtain ⟨x3, rfl, b3, d3⟩ := aG_int g3
  dsimp only at b3 d3
  obtain ⟨x4, rfl, b4, d4⟩ := aG_int g4
  dsimp only at b4 d4
  obtain ⟨x5, rfl, b5, d5⟩ := aG_int g5
  dsimp only at b5 d5
  obtain ⟨x6, rfl, b6, d6⟩ := aG_int g6
  dsimp only at b6 d6
  obtain ⟨x7, rfl, b7, d7⟩ := aG_int g7
  dsimp only at b7 d7
  obtain ⟨x8, rfl, b8, d8⟩ := aG_int g8
  dsimp only at b8 d8
  obtain ⟨x9, rfl, b9, d9⟩ := aG_int g9
  dsimp only at b9 d9
  obtain ⟨m1, m2, m3, m4⟩ := hM0
  obtain ⟨M, hM⟩ := rMe_ex hH b0 d0
  have l0 : 0 ≤ (1 * x3.toInt + (-8 * x2.toInt + 0)) + 0 := by
    obtain ⟨z, e6, e7⟩ := m3 ([(3, 1), (2, -8)], 0) (List.mem_of_getElem? (i := 0) rfl)
    obtain rfl : (1 * x3.toInt + (-8 * x2.toInt + 0)) = z := Option.some.inj (show some (1 * x3.toInt + (-8 * x2.toInt + 0)) = some z from e6)
    exact e7
  have l1 : 0 ≤ (-1 * x3.toInt + (8 * x2.toInt + 0)) + 0 := by
    obtain ⟨z, e6, e7⟩ := m3 ([(3, -1), (2, 8)], 0) (List.mem_of_getElem? (i := 1) rfl)
    obtain rfl : (-1 * x3.toInt + (8 * x2.toInt + 0)) = z := Option.some.inj (show some (-1 * x3.toInt + (8 * x2.toInt + 0)) = some z from e6)
    exact e7
  have l2 : 0 ≤ (1 * x8.toInt + (-1 * x3.toInt + 0)) + -2 := by
    obtain ⟨z, e6, e7⟩ := m3 ([(8, 1), (3, -1)], -2) (List.mem_of_getElem? (i := 2) rfl)
    obtain rfl : (1 * x8.toInt + (-1 * x3.toInt + 0)) = z := Option.some.inj (show some (1 * x8.toInt + (-1 * x3.toInt + 0)) = some z from e6)
    exact e7
  have l3 : 0 ≤ (-1 * x8.toInt + (1 * x3.toInt + 0)) + 2 := by
    obtain ⟨z, e6, e7⟩ := m3 ([(8, -1), (3, 1)], 2) (List.mem_of_getElem? (i := 3) rfl)
    obtain rfl : (-1 * x8.toInt + (1 * x3.toInt + 0)) = z := Option.some.inj (show some (-1 * x8.toInt + (1 * x3.toInt + 0)) = some z from e6)
    exact e7
  have f0 : rB K n p 155 [rI x4, rI x5, rI x6] σ := by
    obtain ⟨w, e6, e7⟩ := m4 (2483, [4, 5, 6]) (List.mem_of_getElem? (i := 0) rfl)
    obtain rfl : [rI x4, rI x5, rI x6] = w := Option.some.inj (show some [rI x4, rI x5, rI x6] = some w from e6)
    exact (rF_b (r := 2483) (by decide) rfl).mp e7
  have f0 := ro_155.mp f0
  have f1 : rB K n p 120 [rI x1, rI x4, rI x5, rI x7] σ := by
    obtain ⟨w, e6, e7⟩ := m4 (1924, [1, 4, 5, 7]) (List.mem_of_getElem? (i := 1) rfl)
    obtain rfl : [rI x1, rI x4, rI x5, rI x7] = w := Option.some.inj (show some [rI x1, rI x4, rI x5, rI x7] = some w from e6)
    exact (rF_b (r := 1924) (by decide) rfl).mp e7
  have f1 := ro_120.mp f1
  have f2 : rB K n p 122 [rR x0, rI x7, rI x8, rI x9] σ := by
    obtain ⟨w, e6, e7⟩ := m4 (1956, [0, 7, 8, 9]) (List.mem_of_getElem? (i := 2) rfl)
    obtain rfl : [rR x0, rI x7, rI x8, rI x9] = w := Option.some.inj (show some [rR x0, rI x7, rI x8, rI x9] = some w from e6)
    exact (rF_b (r := 1956) (by decide) rfl).mp e7
  obtain ⟨M9, h9, f2⟩ := ro_122.mp f2
  obtain rfl := rMg_u hM h9
  clear h9
  clear m1 m2 m3 m4
  have q0 : rB K n p 131 [rR x0, rI x1, rI x2] σ := ro_131.mpr ⟨_, hM, by
    refine Or.inr (Or.inr ⟨x4.toInt, x5.toInt, by omega, by omega, by omega, by omega, Or.inl ⟨by rw [← f0]; omega, by rw [← f1]; omega, by rw [← f1]; omega⟩⟩)⟩
  exact ⟨p, fun _ => rfl, ⟨(fun q h => by cases h), fun q h => (by cases h), (fun f h => by cases h), (aAllc ⟨_, rfl, (rF_b (r := 2099) (by decide) rfl).mpr q0⟩ (fun f h => by cases h))⟩, [], List.mem_cons_self, fun f h => (by cases h)⟩
theorem rw_rvN1 {K : Nat → Nat} {n : Nat} {JX : (Nat → jcell) → Prop} : aGho (rF K n) fa_T K n JX ag_rvN1 := by
  refine aGho_of ⟨rfl, rfl⟩ ?_
  intro p σ ρ hH hX hA hM0
  have hG := aAG_of hA.1 (fun i e v he hv => (hA.2 i e v he hv).1)
  clear hA
  obtain ⟨v0, v1, v2, v3, v4, v5, v6, v7, v8, v9, v10, rfl, g0, g1, g2, g3, g4, g5, g6, g7, g8, g9, g10⟩ := rA_11 hG
  clear hG
  obtain ⟨x0, rfl, b0, d0⟩ := rG_ref (by decide) g0
  obtain ⟨x1, rfl, b1, d1⟩ := aG_int g1
  dsimp only at b1 d1
  obtain ⟨x2, rfl, b2, d2⟩ := aG_int g2
  dsimp only at b2 d2
  obtain ⟨x3, rfl, b3, d3⟩ := aG_int g3
  dsimp only at b3 d3
  obtain ⟨x4, rfl, b4, d4⟩ := aG_int g4
  dsimp only at b4 d4
  obtain ⟨x5, rfl, b5, d5⟩ := aG_int g5
  dsimp only at b5 d5
  obtain ⟨x6, rfl, b6, d6⟩ := aG_int g6
  dsimp only at b6 d6
  obtain ⟨x7, rfl, b7, d7⟩ := aG_int g7
  dsimp only at b7 d7
  obtain ⟨x8, rfl, b8, d8⟩ := aG_int g8
  dsimp only at b8 d8
  obtain ⟨x9, rfl, b9, d9⟩ := aG_int g9
  dsimp only at b9 d9
  obtain ⟨x10, rfl, b10, d10⟩ := aG_int g10
  dsimp only at b10 d10
  obtain ⟨m1, m2, m3, m4⟩ := hM0
  obtain ⟨M, hM⟩ := rMe_ex hH b0 d0
  have l0 : 0 ≤ (1 * x3.toInt + (-8 * x2.toInt + 0)) + 0 := by
    obtain ⟨z, e6, e7⟩ := m3 ([(3, 1), (2, -8)], 0) (List.mem_of_getElem? (i := 0) rfl)
    obtain rfl : (1 * x3.toInt + (-8 * x2.toInt + 0)) = z := Option.some.inj (show some (1 * x3.toInt + (-8 * x2.toInt + 0)) = some z from e6)
    exact e7
  have l1 : 0 ≤ (-1 * x3.toInt + (8 * x2.toInt + 0)) + 0 := by
    obtain ⟨z, e6, e7⟩ := m3 ([(3, -1), (2, 8)], 0) (List.mem_of_getElem? (i := 1) rfl)
    obtain rfl : (-1 * x3.toInt + (8 * x2.toInt + 0)) = z := Option.some.inj (show some (-1 * x3.toInt + (8 * x2.toInt + 0)) = some z from e6)
    exact e7
  have l2 : 0 ≤ (1 * x8.toInt + (-1 * x3.toInt + 0)) + -6 := by
    obtain ⟨z, e6, e7⟩ := m3 ([(8, 1), (3, -1)], -6) (List.mem_of_getElem? (i := 2) rfl)
    obtain rfl : (1 * x8.toInt + (-1 * x3.toInt + 0)) = z := Option.some.inj (show some (1 * x8.toInt + (-1 * x3.toInt + 0)) = some z from e6)
    exact e7
  have l3 : 0 ≤ (-1 * x8.toInt + (1 * x3.toInt + 0)) + 6 := by
    obtain ⟨z, e6, e7⟩ := m3 ([(8, -1), (3, 1)], 6) (List.mem_of_getElem? (i := 3) rfl)
    obtain rfl : (-1 * x8.toInt + (1 * x3.toInt + 0)) = z := Option.some.inj (show some (-1 * x8.toInt + (1 * x3.toInt + 0)) = some z from e6)
    exact e7
  have f0 : rB K n p 129 [rR x0, rI x1, rI x2, rI x4, rI x5] σ := by
    obtain ⟨w, e6, e7⟩ := m4 (2069, [0, 1, 2, 4, 5]) (List.mem_of_getElem? (i := 0) rfl)
    obtain rfl : [rR x0, rI x1, rI x2, rI x4, rI x5] = w := Option.some.inj (show some [rR x0, rI x1, rI x2, rI x4, rI x5] = some w from e6)
    exact (rF_b (r := 2069) (by decide) rfl).mp e7
  obtain ⟨M9, h9, f0⟩ := ro_129.mp f0
  obtain rfl := rMg_u hM h9
  clear h9
  have f1 : rB K n p 155 [rI x4, rI x5, rI x6] σ := by
    obtain ⟨w, e6, e7⟩ := m4 (2483, [4, 5, 6]) (List.mem_of_getElem? (i := 1) rfl)
    obtain rfl : [rI x4, rI x5, rI x6] = w := Option.some.inj (show some [rI x4, rI x5, rI x6] = some w from e6)
    exact (rF_b (r := 2483) (by decide) rfl).mp e7
  have f1 := ro_155.mp f1
  have f2 : rB K n p 120 [rI x1, rI x4, rI x5, rI x7] σ := by
    obtain ⟨w, e6, e7⟩ := m4 (1924, [1, 4, 5, 7]) (List.mem_of_getElem? (i := 2) rfl)
    obtain rfl : [rI x1, rI x4, rI x5, rI x7] = w := Option.some.inj (show some [rI x1, rI x4, rI x5, rI x7] = some w from e6)
    exact (rF_b (r := 1924) (by decide) rfl).mp e7
  have f2 := ro_120.mp f2
  have f3 : rB K n p 122 [rR x0, rI x7, rI x8, rI x9] σ := by
    obtain ⟨w, e6, e7⟩ := m4 (1956, [0, 7, 8, 9]) (List.mem_of_getElem? (i := 3) rfl)
    obtain rfl : [rR x0, rI x7, rI x8, rI x9] = w := Option.some.inj (show some [rR x0, rI x7, rI x8, rI x9] = some w from e6)
    exact (rF_b (r := 1956) (by decide) rfl).mp e7
  obtain ⟨M9, h9, f3⟩ := ro_122.mp f3
  obtain rfl := rMg_u hM h9
  clear h9
  have f4 : rB K n p 125 [rR x0, rI x1, rI x4, rI x5, rI x10] σ := by
    obtain ⟨w, e6, e7⟩ := m4 (2005, [0, 1, 4, 5, 10]) (List.mem_of_getElem? (i := 4) rfl)
    obtain rfl : [rR x0, rI x1, rI x4, rI x5, rI x10] = w := Option.some.inj (show some [rR x0, rI x1, rI x4, rI x5, rI x10] = some w from e6)
    exact (rF_b (r := 2005) (by decide) rfl).mp e7
  obtain ⟨M9, h9, f4⟩ := ro_125.mp f4
  obtain rfl := rMg_u hM h9
  clear h9
  have f5 : rB K n p 133 [rI x10, rI x3] σ := by
    obtain ⟨w, e6, e7⟩ := m4 (2130, [10, 3]) (List.mem_of_getElem? (i := 5) rfl)
    obtain rfl : [rI x10, rI x3] = w := Option.some.inj (show some [rI x10, rI x3] = some w from e6)
    exact (rF_b (r := 2130) (by decide) rfl).mp e7
  have f5 := ro_133.mp f5
  have f6 : rB K n p 134 [rI x10, rI x3, rI x6] σ := by
    obtain ⟨w, e6, e7⟩ := m4 (2147, [10, 3, 6]) (List.mem_of_getElem? (i := 6) rfl)
    obtain rfl : [rI x10, rI x3, rI x6] = w := Option.some.inj (show some [rI x10, rI x3, rI x6] = some w from e6)
    exact (rF_b (r := 2147) (by decide) rfl).mp e7
  have f6 := ro_134.mp f6
  clear m1 m2 m3 m4
  have q0 : rB K n p 130 [rR x0, rI x1, rI x2, rI x4, rI x5] σ := ro_130.mpr ⟨_, hM, by
    refine ⟨f0.1, f0.2.1, f0.2.2.1, fun r h1 h2 => ?_⟩
    by_cases c : r = x5.toInt
    · rw [c]
      intro h
      unfold rA1 at h
      rw [← f1] at h
      rcases h with ⟨h3, -⟩ | ⟨-, -, ⟨h3, h4⟩ | ⟨m, h3, h4⟩⟩
      · omega
      · rw [← f2] at h3 h4; omega
      · obtain rfl := rGf_u h3 f4; omega
    · exact f0.2.2.2 r h1 (by omega)⟩
  exact ⟨p, fun _ => rfl, ⟨(fun q h => by cases h), fun q h => (by cases h), (fun f h => by cases h), (aAllc ⟨_, rfl, (rF_b (r := 2085) (by decide) rfl).mpr q0⟩ (fun f h => by cases h))⟩, [], List.mem_cons_self, fun f h => (by cases h)⟩
theorem rw_rvYk {K : Nat → Nat} {n : Nat} {JX : (Nat → jcell) → Prop} : aGho (rF K n) fa_T K n JX ag_rvYk := by
  refine aGho_of ⟨rfl, rfl⟩ ?_
  intro p σ ρ hH hX hA hM0
  have hG := aAG_of hA.1 (fun i e v he hv => (hA.2 i e v he hv).1)
  clear hA
  obtain ⟨v0, v1, v2, v3, v4, v5, v6, v7, v8, v9, rfl, g0, g1, g2, g3, g4, g5, g6, g7, g8, g9⟩ := rA_10 hG
  clear hG
  obtain ⟨x0, rfl, b0, d0⟩ := rG_ref (by decide) g0
  obtain ⟨x1, rfl, b1, d1⟩ := aG_int g1
  dsimp only at b1 d1
  obtain ⟨x2, rfl, b2, d2⟩ := aG_int g2
  dsimp only at b2 d2
  obtain ⟨x3, rfl, b3, d3⟩ := aG_int g3
  dsimp only at b3 d3
  obtain ⟨x4, rfl, b4, d4⟩ := aG_int g4
  dsimp only at b4 d4
  obtain ⟨x5, rfl, b5, d5⟩ := aG_int g5
  dsimp only at b5 d5
  obtain ⟨x6, rfl, b6, d6⟩ := aG_int g6
  dsimp only at b6 d6
  obtain ⟨x7, rfl, b7, d7⟩ := aG_int g7
  dsimp only at b7 d7
  obtain ⟨x8, rfl, b8, d8⟩ := aG_int g8
  dsimp only at b8 d8
  obtain ⟨x9, rfl, b9, d9⟩ := aG_int g9
  dsimp only at b9 d9
  obtain ⟨m1, m2, m3, m4⟩ := hM0
  obtain ⟨M, hM⟩ := rMe_ex hH b0 d0
  have l0 : 0 ≤ (1 * x3.toInt + (-8 * x2.toInt + 0)) + 0 := by
    obtain ⟨z, e6, e7⟩ := m3 ([(3, 1), (2, -8)], 0) (List.mem_of_getElem? (i := 0) rfl)
    obtain rfl : (1 * x3.toInt + (-8 * x2.toInt + 0)) = z := Option.some.inj (show some (1 * x3.toInt + (-8 * x2.toInt + 0)) = some z from e6)
    exact e7
  have l1 : 0 ≤ (-1 * x3.toInt + (8 * x2.toInt + 0)) + 0 := by
    obtain ⟨z, e6, e7⟩ := m3 ([(3, -1), (2, 8)], 0) (List.mem_of_getElem? (i := 1) rfl)
    obtain rfl : (-1 * x3.toInt + (8 * x2.toInt + 0)) = z := Option.some.inj (show some (-1 * x3.toInt + (8 * x2.toInt + 0)) = some z from e6)
    exact e7
  have l2 : 0 ≤ (1 * x8.toInt + (-1 * x3.toInt + 0)) + -6 := by
    obtain ⟨z, e6, e7⟩ := m3 ([(8, 1), (3, -1)], -6) (List.mem_of_getElem? (i := 2) rfl)
    obtain rfl : (1 * x8.toInt + (-1 * x3.toInt + 0)) = z := Option.some.inj (show some (1 * x8.toInt + (-1 * x3.toInt + 0)) = some z from e6)
    exact e7
  have l3 : 0 ≤ (-1 * x8.toInt + (1 * x3.toInt + 0)) + 6 := by
    obtain ⟨z, e6, e7⟩ := m3 ([(8, -1), (3, 1)], 6) (List.mem_of_getElem? (i := 3) rfl)
    obtain rfl : (-1 * x8.toInt + (1 * x3.toInt + 0)) = z := Option.some.inj (show some (-1 * x8.toInt + (1 * x3.toInt + 0)) = some z from e6)
    exact e7
  have f0 : rB K n p 155 [rI x4, rI x5, rI x6] σ := by
    obtain ⟨w, e6, e7⟩ := m4 (2483, [4, 5, 6]) (List.mem_of_getElem? (i := 0) rfl)
    obtain rfl : [rI x4, rI x5, rI x6] = w := Option.some.inj (show some [rI x4, rI x5, rI x6] = some w from e6)
    exact (rF_b (r := 2483) (by decide) rfl).mp e7
  have f0 := ro_155.mp f0
  have f1 : rB K n p 120 [rI x1, rI x4, rI x5, rI x7] σ := by
    obtain ⟨w, e6, e7⟩ := m4 (1924, [1, 4, 5, 7]) (List.mem_of_getElem? (i := 1) rfl)
    obtain rfl : [rI x1, rI x4, rI x5, rI x7] = w := Option.some.inj (show some [rI x1, rI x4, rI x5, rI x7] = some w from e6)
    exact (rF_b (r := 1924) (by decide) rfl).mp e7
  have f1 := ro_120.mp f1
  have f2 : rB K n p 122 [rR x0, rI x7, rI x8, rI x9] σ := by
    obtain ⟨w, e6, e7⟩ := m4 (1956, [0, 7, 8, 9]) (List.mem_of_getElem? (i := 2) rfl)
    obtain rfl : [rR x0, rI x7, rI x8, rI x9] = w := Option.some.inj (show some [rR x0, rI x7, rI x8, rI x9] = some w from e6)
    exact (rF_b (r := 1956) (by decide) rfl).mp e7
  obtain ⟨M9, h9, f2⟩ := ro_122.mp f2
  obtain rfl := rMg_u hM h9
  clear h9
  clear m1 m2 m3 m4
  have q0 : rB K n p 131 [rR x0, rI x1, rI x2] σ := ro_131.mpr ⟨_, hM, by
    refine Or.inr (Or.inr ⟨x4.toInt, x5.toInt, by omega, by omega, by omega, by omega, Or.inr ⟨by rw [← f0]; omega, by rw [← f0]; omega, Or.inl ⟨by rw [← f1]; omega, by rw [← f1]; omega⟩⟩⟩)⟩
  exact ⟨p, fun _ => rfl, ⟨(fun q h => by cases h), fun q h => (by cases h), (fun f h => by cases h), (aAllc ⟨_, rfl, (rF_b (r := 2099) (by decide) rfl).mpr q0⟩ (fun f h => by cases h))⟩, [], List.mem_cons_self, fun f h => (by cases h)⟩
theorem rw_rvYq {K : Nat → Nat} {n : Nat} {JX : (Nat → jcell) → Prop} : aGho (rF K n) fa_T K n JX ag_rvYq := by
  refine aGho_of ⟨rfl, rfl⟩ ?_
  intro p σ ρ hH hX hA hM0
  have hG := aAG_of hA.1 (fun i e v he hv => (hA.2 i e v he hv).1)
  clear hA
  obtain ⟨v0, v1, v2, v3, v4, v5, v6, v7, rfl, g0, g1, g2, g3, g4, g5, g6, g7⟩ := rA_8 hG
  clear hG
  obtain ⟨x0, rfl, b0, d0⟩ := rG_ref (by decide) g0
  obtain ⟨x1, rfl, b1, d1⟩ := aG_int g1
  dsimp only at b1 d1
  obtain ⟨x2, rfl, b2, d2⟩ := aG_int g2
  dsimp only at b2 d2
  obtain ⟨x3, rfl, b3, d3⟩ := aG_int g3
  dsimp only at b3 d3
  obtain ⟨x4, rfl, b4, d4⟩ := aG_int g4
  dsimp only at b4 d4
  obtain ⟨x5, rfl, b5, d5⟩ := aG_int g5
  dsimp only at b5 d5
  obtain ⟨x6, rfl, b6, d6⟩ := aG_int g6
  dsimp only at b6 d6
  obtain ⟨x7, rfl, b7, d7⟩ := aG_int g7
  dsimp only at b7 d7
  obtain ⟨m1, m2, m3, m4⟩ := hM0
  obtain ⟨M, hM⟩ := rMe_ex hH b0 d0
  have l0 : 0 ≤ (1 * x3.toInt + (-8 * x2.toInt + 0)) + 0 := by
    obtain ⟨z, e6, e7⟩ := m3 ([(3, 1), (2, -8)], 0) (List.mem_of_getElem? (i := 0) rfl)
    obtain rfl : (1 * x3.toInt + (-8 * x2.toInt + 0)) = z := Option.some.inj (show some (1 * x3.toInt + (-8 * x2.toInt + 0)) = some z from e6)
    exact e7
  have l1 : 0 ≤ (-1 * x3.toInt + (8 * x2.toInt + 0)) + 0 := by
    obtain ⟨z, e6, e7⟩ := m3 ([(3, -1), (2, 8)], 0) (List.mem_of_getElem? (i := 1) rfl)
    obtain rfl : (-1 * x3.toInt + (8 * x2.toInt + 0)) = z := Option.some.inj (show some (-1 * x3.toInt + (8 * x2.toInt + 0)) = some z from e6)
    exact e7
  have l2 : 0 ≤ (1 * x7.toInt + (-1 * x3.toInt + 0)) + -5 := by
    obtain ⟨z, e6, e7⟩ := m3 ([(7, 1), (3, -1)], -5) (List.mem_of_getElem? (i := 2) rfl)
    obtain rfl : (1 * x7.toInt + (-1 * x3.toInt + 0)) = z := Option.some.inj (show some (1 * x7.toInt + (-1 * x3.toInt + 0)) = some z from e6)
    exact e7
  have l3 : 0 ≤ (-1 * x7.toInt + (1 * x3.toInt + 0)) + 5 := by
    obtain ⟨z, e6, e7⟩ := m3 ([(7, -1), (3, 1)], 5) (List.mem_of_getElem? (i := 3) rfl)
    obtain rfl : (-1 * x7.toInt + (1 * x3.toInt + 0)) = z := Option.some.inj (show some (-1 * x7.toInt + (1 * x3.toInt + 0)) = some z from e6)
    exact e7
  have f0 : rB K n p 155 [rI x4, rI x5, rI x6] σ := by
    obtain ⟨w, e6, e7⟩ := m4 (2483, [4, 5, 6]) (List.mem_of_getElem? (i := 0) rfl)
    obtain rfl : [rI x4, rI x5, rI x6] = w := Option.some.inj (show some [rI x4, rI x5, rI x6] = some w from e6)
    exact (rF_b (r := 2483) (by decide) rfl).mp e7
  have f0 := ro_155.mp f0
  have f1 : rB K n p 125 [rR x0, rI x1, rI x4, rI x5, rI x7] σ := by
    obtain ⟨w, e6, e7⟩ := m4 (2005, [0, 1, 4, 5, 7]) (List.mem_of_getElem? (i := 1) rfl)
    obtain rfl : [rR x0, rI x1, rI x4, rI x5, rI x7] = w := Option.some.inj (show some [rR x0, rI x1, rI x4, rI x5, rI x7] = some w from e6)
    exact (rF_b (r := 2005) (by decide) rfl).mp e7
  obtain ⟨M9, h9, f1⟩ := ro_125.mp f1
  obtain rfl := rMg_u hM h9
  clear h9
  clear m1 m2 m3 m4
  have q0 : rB K n p 131 [rR x0, rI x1, rI x2] σ := ro_131.mpr ⟨_, hM, by
    refine Or.inr (Or.inr ⟨x4.toInt, x5.toInt, by omega, by omega, by omega, by omega, Or.inr ⟨by rw [← f0]; omega, by rw [← f0]; omega, Or.inr ⟨x7.toInt, f1, Or.inl (by omega)⟩⟩⟩)⟩
  exact ⟨p, fun _ => rfl, ⟨(fun q h => by cases h), fun q h => (by cases h), (fun f h => by cases h), (aAllc ⟨_, rfl, (rF_b (r := 2099) (by decide) rfl).mpr q0⟩ (fun f h => by cases h))⟩, [], List.mem_cons_self, fun f h => (by cases h)⟩
theorem rw_rvYr1 {K : Nat → Nat} {n : Nat} {JX : (Nat → jcell) → Prop} : aGho (rF K n) fa_T K n JX ag_rvYr1 := by
  refine aGho_of ⟨rfl, rfl⟩ ?_
  intro p σ ρ hH hX hA hM0
  have hG := aAG_of hA.1 (fun i e v he hv => (hA.2 i e v he hv).1)
  clear hA
  obtain ⟨v0, v1, v2, v3, v4, v5, v6, v7, rfl, g0, g1, g2, g3, g4, g5, g6, g7⟩ := rA_8 hG
  clear hG
  obtain ⟨x0, rfl, b0, d0⟩ := rG_ref (by decide) g0
  obtain ⟨x1, rfl, b1, d1⟩ := aG_int g1
  dsimp only at b1 d1
  obtain ⟨x2, rfl, b2, d2⟩ := aG_int g2
  dsimp only at b2 d2
  obtain ⟨x3, rfl, b3, d3⟩ := aG_int g3
  dsimp only at b3 d3
  obtain ⟨x4, rfl, b4, d4⟩ := aG_int g4
  dsimp only at b4 d4
  obtain ⟨x5, rfl, b5, d5⟩ := aG_int g5
  dsimp only at b5 d5
  obtain ⟨x6, rfl, b6, d6⟩ := aG_int g6
  dsimp only at b6 d6
  obtain ⟨x7, rfl, b7, d7⟩ := aG_int g7
  dsimp only at b7 d7
  obtain ⟨m1, m2, m3, m4⟩ := hM0
  obtain ⟨M, hM⟩ := rMe_ex hH b0 d0
  have l0 : 0 ≤ (1 * x3.toInt + (-8 * x2.toInt + 0)) + 0 := by
    obtain ⟨z, e6, e7⟩ := m3 ([(3, 1), (2, -8)], 0) (List.mem_of_getElem? (i := 0) rfl)
    obtain rfl : (1 * x3.toInt + (-8 * x2.toInt + 0)) = z := Option.some.inj (show some (1 * x3.toInt + (-8 * x2.toInt + 0)) = some z from e6)
    exact e7
  have l1 : 0 ≤ (-1 * x3.toInt + (8 * x2.toInt + 0)) + 0 := by
    obtain ⟨z, e6, e7⟩ := m3 ([(3, -1), (2, 8)], 0) (List.mem_of_getElem? (i := 1) rfl)
    obtain rfl : (-1 * x3.toInt + (8 * x2.toInt + 0)) = z := Option.some.inj (show some (-1 * x3.toInt + (8 * x2.toInt + 0)) = some z from e6)
    exact e7
  have l2 : 0 ≤ (1 * x7.toInt + (-1 * x3.toInt + 0)) + -4 := by
    obtain ⟨z, e6, e7⟩ := m3 ([(7, 1), (3, -1)], -4) (List.mem_of_getElem? (i := 2) rfl)
    obtain rfl : (1 * x7.toInt + (-1 * x3.toInt + 0)) = z := Option.some.inj (show some (1 * x7.toInt + (-1 * x3.toInt + 0)) = some z from e6)
    exact e7
  have l3 : 0 ≤ (-1 * x7.toInt + (1 * x3.toInt + 0)) + 4 := by
    obtain ⟨z, e6, e7⟩ := m3 ([(7, -1), (3, 1)], 4) (List.mem_of_getElem? (i := 3) rfl)
    obtain rfl : (-1 * x7.toInt + (1 * x3.toInt + 0)) = z := Option.some.inj (show some (-1 * x7.toInt + (1 * x3.toInt + 0)) = some z from e6)
    exact e7
  have f0 : rB K n p 155 [rI x4, rI x5, rI x6] σ := by
    obtain ⟨w, e6, e7⟩ := m4 (2483, [4, 5, 6]) (List.mem_of_getElem? (i := 0) rfl)
    obtain rfl : [rI x4, rI x5, rI x6] = w := Option.some.inj (show some [rI x4, rI x5, rI x6] = some w from e6)
    exact (rF_b (r := 2483) (by decide) rfl).mp e7
  have f0 := ro_155.mp f0
  have f1 : rB K n p 125 [rR x0, rI x1, rI x4, rI x5, rI x7] σ := by
    obtain ⟨w, e6, e7⟩ := m4 (2005, [0, 1, 4, 5, 7]) (List.mem_of_getElem? (i := 1) rfl)
    obtain rfl : [rR x0, rI x1, rI x4, rI x5, rI x7] = w := Option.some.inj (show some [rR x0, rI x1, rI x4, rI x5, rI x7] = some w from e6)
    exact (rF_b (r := 2005) (by decide) rfl).mp e7
  obtain ⟨M9, h9, f1⟩ := ro_125.mp f1
  obtain rfl := rMg_u hM h9
  clear h9
  clear m1 m2 m3 m4
  have q0 : rB K n p 131 [rR x0, rI x1, rI x2] σ := ro_131.mpr ⟨_, hM, by
    refine Or.inr (Or.inr ⟨x4.toInt, x5.toInt, by omega, by omega, by omega, by omega, Or.inr ⟨by rw [← f0]; omega, by rw [← f0]; omega, Or.inr ⟨x7.toInt, f1, Or.inr (Or.inl ⟨by rw [← f0]; omega, by omega⟩)⟩⟩⟩)⟩
  exact ⟨p, fun _ => rfl, ⟨(fun q h => by cases h), fun q h => (by cases h), (fun f h => by cases h), (aAllc ⟨_, rfl, (rF_b (r := 2099) (by decide) rfl).mpr q0⟩ (fun f h => by cases h))⟩, [], List.mem_cons_self, fun f h => (by cases h)⟩
theorem rw_rvYr2 {K : Nat → Nat} {n : Nat} {JX : (Nat → jcell) → Prop} : aGho (rF K n) fa_T K n JX ag_rvYr2 := by
  refine aGho_of ⟨rfl, rfl⟩ ?_
  intro p σ ρ hH hX hA hM0
  have hG := aAG_of hA.1 (fun i e v he hv => (hA.2 i e v he hv).1)
  clear hA
  obtain ⟨v0, v1, v2, v3, v4, v5, v6, v7, rfl, g0, g1, g2, g3, g4, g5, g6, g7⟩ := rA_8 hG
  clear hG
  obtain ⟨x0, rfl, b0, d0⟩ := rG_ref (by decide) g0
  obtain ⟨x1, rfl, b1, d1⟩ := aG_int g1
  dsimp only at b1 d1
  obtain ⟨x2, rfl, b2, d2⟩ := aG_int g2
  dsimp only at b2 d2
  obtain ⟨x3, rfl, b3, d3⟩ := aG_int g3
  dsimp only at b3 d3
  obtain ⟨x4, rfl, b4, d4⟩ := aG_int g4
  dsimp only at b4 d4
  obtain ⟨x5, rfl, b5, d5⟩ := aG_int g5
  dsimp only at b5 d5
  obtain ⟨x6, rfl, b6, d6⟩ := aG_int g6
  dsimp only at b6 d6
  obtain ⟨x7, rfl, b7, d7⟩ := aG_int g7
  dsimp only at b7 d7
  obtain ⟨m1, m2, m3, m4⟩ := hM0
  obtain ⟨M, hM⟩ := rMe_ex hH b0 d0
  have l0 : 0 ≤ (1 * x3.toInt + (-8 * x2.toInt + 0)) + 0 := by
    obtain ⟨z, e6, e7⟩ := m3 ([(3, 1), (2, -8)], 0) (List.mem_of_getElem? (i := 0) rfl)
    obtain rfl : (1 * x3.toInt + (-8 * x2.toInt + 0)) = z := Option.some.inj (show some (1 * x3.toInt + (-8 * x2.toInt + 0)) = some z from e6)
    exact e7
  have l1 : 0 ≤ (-1 * x3.toInt + (8 * x2.toInt + 0)) + 0 := by
    obtain ⟨z, e6, e7⟩ := m3 ([(3, -1), (2, 8)], 0) (List.mem_of_getElem? (i := 1) rfl)
    obtain rfl : (-1 * x3.toInt + (8 * x2.toInt + 0)) = z := Option.some.inj (show some (-1 * x3.toInt + (8 * x2.toInt + 0)) = some z from e6)
    exact e7
  have l2 : 0 ≤ (1 * x7.toInt + (-1 * x3.toInt + 0)) + -3 := by
    obtain ⟨z, e6, e7⟩ := m3 ([(7, 1), (3, -1)], -3) (List.mem_of_getElem? (i := 2) rfl)
    obtain rfl : (1 * x7.toInt + (-1 * x3.toInt + 0)) = z := Option.some.inj (show some (1 * x7.toInt + (-1 * x3.toInt + 0)) = some z from e6)
    exact e7
  have l3 : 0 ≤ (-1 * x7.toInt + (1 * x3.toInt + 0)) + 3 := by
    obtain ⟨z, e6, e7⟩ := m3 ([(7, -1), (3, 1)], 3) (List.mem_of_getElem? (i := 3) rfl)
    obtain rfl : (-1 * x7.toInt + (1 * x3.toInt + 0)) = z := Option.some.inj (show some (-1 * x7.toInt + (1 * x3.toInt + 0)) = some z from e6)
    exact e7
  have f0 : rB K n p 155 [rI x4, rI x5, rI x6] σ := by
    obtain ⟨w, e6, e7⟩ := m4 (2483, [4, 5, 6]) (List.mem_of_getElem? (i := 0) rfl)
    obtain rfl : [rI x4, rI x5, rI x6] = w := Option.some.inj (show some [rI x4, rI x5, rI x6] = some w from e6)
    exact (rF_b (r := 2483) (by decide) rfl).mp e7
  have f0 := ro_155.mp f0
  have f1 : rB K n p 125 [rR x0, rI x1, rI x4, rI x5, rI x7] σ := by
    obtain ⟨w, e6, e7⟩ := m4 (2005, [0, 1, 4, 5, 7]) (List.mem_of_getElem? (i := 1) rfl)
    obtain rfl : [rR x0, rI x1, rI x4, rI x5, rI x7] = w := Option.some.inj (show some [rR x0, rI x1, rI x4, rI x5, rI x7] = some w from e6)
    exact (rF_b (r := 2005) (by decide) rfl).mp e7
  obtain ⟨M9, h9, f1⟩ := ro_125.mp f1
  obtain rfl := rMg_u hM h9
  clear h9
  clear m1 m2 m3 m4
  have q0 : rB K n p 131 [rR x0, rI x1, rI x2] σ := ro_131.mpr ⟨_, hM, by
    refine Or.inr (Or.inr ⟨x4.toInt, x5.toInt, by omega, by omega, by omega, by omega, Or.inr ⟨by rw [← f0]; omega, by rw [← f0]; omega, Or.inr ⟨x7.toInt, f1, Or.inr (Or.inr ⟨by rw [← f0]; omega, by omega⟩)⟩⟩⟩)⟩
  exact ⟨p, fun _ => rfl, ⟨(fun q h => by cases h), fun q h => (by cases h), (fun f h => by cases h), (aAllc ⟨_, rfl, (rF_b (r := 2099) (by decide) rfl).mpr q0⟩ (fun f h => by cases h))⟩, [], List.mem_cons_self, fun f h => (by cases h)⟩
theorem rw_rvN00 {K : Nat → Nat} {n : Nat} {JX : (Nat → jcell) → Prop} : aGho (rF K n) fa_T K n JX ag_rvN00 := by
  refine aGho_of ⟨rfl, rfl⟩ ?_
  intro p σ ρ hH hX hA hM0
  have hG := aAG_of hA.1 (fun i e v he hv => (hA.2 i e v he hv).1)
  clear hA
  obtain ⟨v0, v1, v2, v3, v4, v5, v6, rfl, g0, g1, g2, g3, g4, g5, g6⟩ := rA_7 hG
  clear hG
  obtain ⟨x0, rfl, b0, d0⟩ := rG_ref (by decide) g0
  obtain ⟨x1, rfl, b1, d1⟩ := aG_int g1
  dsimp only at b1 d1
  obtain ⟨x2, rfl, b2, d2⟩ := aG_int g2
  dsimp only at b2 d2
  obtain ⟨x3, rfl, b3, d3⟩ := aG_int g3
  dsimp only at b3 d3
  obtain ⟨x4, rfl, b4, d4⟩ := aG_int g4
  dsimp only at b4 d4
  obtain ⟨x5, rfl, b5, d5⟩ := aG_int g5
  dsimp only at b5 d5
  obtain ⟨x6, rfl, b6, d6⟩ := aG_int g6
  dsimp only at b6 d6
  obtain ⟨m1, m2, m3, m4⟩ := hM0
  obtain ⟨M, hM⟩ := rMe_ex hH b0 d0
  have l0 : 0 ≤ (1 * x3.toInt + (-8 * x2.toInt + 0)) + 0 := by
    obtain ⟨z, e6, e7⟩ := m3 ([(3, 1), (2, -8)], 0) (List.mem_of_getElem? (i := 0) rfl)
    obtain rfl : (1 * x3.toInt + (-8 * x2.toInt + 0)) = z := Option.some.inj (show some (1 * x3.toInt + (-8 * x2.toInt + 0)) = some z from e6)
    exact e7
  have l1 : 0 ≤ (-1 * x3.toInt + (8 * x2.toInt + 0)) + 0 := by
    obtain ⟨z, e6, e7⟩ := m3 ([(3, -1), (2, 8)], 0) (List.mem_of_getElem? (i := 1) rfl)
    obtain rfl : (-1 * x3.toInt + (8 * x2.toInt + 0)) = z := Option.some.inj (show some (-1 * x3.toInt + (8 * x2.toInt + 0)) = some z from e6)
    exact e7
  have f0 : rB K n p 129 [rR x0, rI x1, rI x2, rI x4, rI x5] σ := by
    obtain ⟨w, e6, e7⟩ := m4 (2069, [0, 1, 2, 4, 5]) (List.mem_of_getElem? (i := 0) rfl)
    obtain rfl : [rR x0, rI x1, rI x2, rI x4, rI x5] = w := Option.some.inj (show some [rR x0, rI x1, rI x2, rI x4, rI x5] = some w from e6)
    exact (rF_b (r := 2069) (by decide) rfl).mp e7
  obtain ⟨M9, h9, f0⟩ := ro_129.mp f0
  obtain rfl := rMg_u hM h9
  clear h9
  have f1 : rB K n p 155 [rI x4, rI x5, rI x6] σ := by
    obtain ⟨w, e6, e7⟩ := m4 (2483, [4, 5, 6]) (List.mem_of_getElem? (i := 1) rfl)
    obtain rfl : [rI x4, rI x5, rI x6] = w := Option.some.inj (show some [rI x4, rI x5, rI x6] = some w from e6)
    exact (rF_b (r := 2483) (by decide) rfl).mp e7
  have f1 := ro_155.mp f1
  clear m1 m2 m3 m4
  have q0 : rB K n p 130 [rR x0, rI x1, rI x2, rI x4, rI x5] σ := ro_130.mpr ⟨_, hM, by
    refine ⟨f0.1, f0.2.1, f0.2.2.1, fun r h1 h2 => ?_⟩
    by_cases c : r = x5.toInt
    · rw [c]
      intro h
      unfold rA1 at h
      rw [← f1] at h
      rcases h with ⟨h3, -⟩ | ⟨h3, h4, -⟩
      · omega
      · omega
    · exact f0.2.2.2 r h1 (by omega)⟩
  exact ⟨p, fun _ => rfl, ⟨(fun q h => by cases h), fun q h => (by cases h), (fun f h => by cases h), (aAllc ⟨_, rfl, (rF_b (r := 2085) (by decide) rfl).mpr q0⟩ (fun f h => by cases h))⟩, [], List.mem_cons_self, fun f h => (by cases h)⟩
theorem rw_rvN01 {K : Nat → Nat} {n : Nat} {JX : (Nat → jcell) → Prop} : aGho (rF K n) fa_T K n JX ag_rvN01 := by
  refine aGho_of ⟨rfl, rfl⟩ ?_
  intro p σ ρ hH hX hA hM0
  have hG := aAG_of hA.1 (fun i e v he hv => (hA.2 i e v he hv).1)
  clear hA
  obtain ⟨v0, v1, v2, v3, v4, v5, v6, rfl, g0, g1, g2, g3, g4, g5, g6⟩ := rA_7 hG
  clear hG
  obtain ⟨x0, rfl, b0, d0⟩ := rG_ref (by decide) g0
  obtain ⟨x1, rfl, b1, d1⟩ := aG_int g1
  dsimp only at b1 d1
  obtain ⟨x2, rfl, b2, d2⟩ := aG_int g2
  dsimp only at b2 d2
  obtain ⟨x3, rfl, b3, d3⟩ := aG_int g3
  dsimp only at b3 d3
  obtain ⟨x4, rfl, b4, d4⟩ := aG_int g4
  dsimp only at b4 d4
  obtain ⟨x5, rfl, b5, d5⟩ := aG_int g5
  dsimp only at b5 d5
  obtain ⟨x6, rfl, b6, d6⟩ := aG_int g6
  dsimp only at b6 d6
  obtain ⟨m1, m2, m3, m4⟩ := hM0
  obtain ⟨M, hM⟩ := rMe_ex hH b0 d0
  have l0 : 0 ≤ (1 * x3.toInt + (-8 * x2.toInt + 0)) + 0 := by
    obtain ⟨z, e6, e7⟩ := m3 ([(3, 1), (2, -8)], 0) (List.mem_of_getElem? (i := 0) rfl)
    obtain rfl : (1 * x3.toInt + (-8 * x2.toInt + 0)) = z := Option.some.inj (show some (1 * x3.toInt + (-8 * x2.toInt + 0)) = some z from e6)
    exact e7
  have l1 : 0 ≤ (-1 * x3.toInt + (8 * x2.toInt + 0)) + 0 := by
    obtain ⟨z, e6, e7⟩ := m3 ([(3, -1), (2, 8)], 0) (List.mem_of_getElem? (i := 1) rfl)
    obtain rfl : (-1 * x3.toInt + (8 * x2.toInt + 0)) = z := Option.some.inj (show some (-1 * x3.toInt + (8 * x2.toInt + 0)) = some z from e6)
    exact e7
  have f0 : rB K n p 129 [rR x0, rI x1, rI x2, rI x4, rI x5] σ := by
    obtain ⟨w, e6, e7⟩ := m4 (2069, [0, 1, 2, 4, 5]) (List.mem_of_getElem? (i := 0) rfl)
    obtain rfl : [rR x0, rI x1, rI x2, rI x4, rI x5] = w := Option.some.inj (show some [rR x0, rI x1, rI x2, rI x4, rI x5] = some w from e6)
    exact (rF_b (r := 2069) (by decide) rfl).mp e7
  obtain ⟨M9, h9, f0⟩ := ro_129.mp f0
  obtain rfl := rMg_u hM h9
  clear h9
  have f1 : rB K n p 155 [rI x4, rI x5, rI x6] σ := by
    obtain ⟨w, e6, e7⟩ := m4 (2483, [4, 5, 6]) (List.mem_of_getElem? (i := 1) rfl)
    obtain rfl : [rI x4, rI x5, rI x6] = w := Option.some.inj (show some [rI x4, rI x5, rI x6] = some w from e6)
    exact (rF_b (r := 2483) (by decide) rfl).mp e7
  have f1 := ro_155.mp f1
  clear m1 m2 m3 m4
  have q0 : rB K n p 130 [rR x0, rI x1, rI x2, rI x4, rI x5] σ := ro_130.mpr ⟨_, hM, by
    refine ⟨f0.1, f0.2.1, f0.2.2.1, fun r h1 h2 => ?_⟩
    by_cases c : r = x5.toInt
    · rw [c]
      intro h
      unfold rA1 at h
      rw [← f1] at h
      rcases h with ⟨h3, -⟩ | ⟨h3, h4, -⟩
      · omega
      · omega
    · exact f0.2.2.2 r h1 (by omega)⟩
  exact ⟨p, fun _ => rfl, ⟨(fun q h => by cases h), fun q h => (by cases h), (fun f h => by cases h), (aAllc ⟨_, rfl, (rF_b (r := 2085) (by decide) rfl).mpr q0⟩ (fun f h => by cases h))⟩, [], List.mem_cons_self, fun f h => (by cases h)⟩
theorem rw_rvN02 {K : Nat → Nat} {n : Nat} {JX : (Nat → jcell) → Prop} : aGho (rF K n) fa_T K n JX ag_rvN02 := by
  refine aGho_of ⟨rfl, rfl⟩ ?_
  intro p σ ρ hH hX hA hM0
  have hG := aAG_of hA.1 (fun i e v he hv => (hA.2 i e v he hv).1)
  clear hA
  obtain ⟨v0, v1, v2, v3, v4, v5, v6, rfl, g0, g1, g2, g3, g4, g5, g6⟩ := rA_7 hG
  clear hG
  obtain ⟨x0, rfl, b0, d0⟩ := rG_ref (by decide) g0
  obtain ⟨x1, rfl, b1, d1⟩ := aG_int g1
  dsimp only at b1 d1
  obtain ⟨x2, rfl, b2, d2⟩ := aG_int g2
  dsimp only at b2 d2
  obtain ⟨x3, rfl, b3, d3⟩ := aG_int g3
  dsimp only at b3 d3
  obtain ⟨x4, rfl, b4, d4⟩ := aG_int g4
  dsimp only at b4 d4
  obtain ⟨x5, rfl, b5, d5⟩ := aG_int g5
  dsimp only at b5 d5
  obtain ⟨x6, rfl, b6, d6⟩ := aG_int g6
  dsimp only at b6 d6
  obtain ⟨m1, m2, m3, m4⟩ := hM0
  obtain ⟨M, hM⟩ := rMe_ex hH b0 d0
  have l0 : 0 ≤ (1 * x3.toInt + (-8 * x2.toInt + 0)) + 0 := by
    obtain ⟨z, e6, e7⟩ := m3 ([(3, 1), (2, -8)], 0) (List.mem_of_getElem? (i := 0) rfl)
    obtain rfl : (1 * x3.toInt + (-8 * x2.toInt + 0)) = z := Option.some.inj (show some (1 * x3.toInt + (-8 * x2.toInt + 0)) = some z from e6)
    exact e7
  have l1 : 0 ≤ (-1 * x3.toInt + (8 * x2.toInt + 0)) + 0 := by
    obtain ⟨z, e6, e7⟩ := m3 ([(3, -1), (2, 8)], 0) (List.mem_of_getElem? (i := 1) rfl)
    obtain rfl : (-1 * x3.toInt + (8 * x2.toInt + 0)) = z := Option.some.inj (show some (-1 * x3.toInt + (8 * x2.toInt + 0)) = some z from e6)
    exact e7
  have f0 : rB K n p 129 [rR x0, rI x1, rI x2, rI x4, rI x5] σ := by
    obtain ⟨w, e6, e7⟩ := m4 (2069, [0, 1, 2, 4, 5]) (List.mem_of_getElem? (i := 0) rfl)
    obtain rfl : [rR x0, rI x1, rI x2, rI x4, rI x5] = w := Option.some.inj (show some [rR x0, rI x1, rI x2, rI x4, rI x5] = some w from e6)
    exact (rF_b (r := 2069) (by decide) rfl).mp e7
  obtain ⟨M9, h9, f0⟩ := ro_129.mp f0
  obtain rfl := rMg_u hM h9
  clear h9
  have f1 : rB K n p 155 [rI x4, rI x5, rI x6] σ := by
    obtain ⟨w, e6, e7⟩ := m4 (2483, [4, 5, 6]) (List.mem_of_getElem? (i := 1) rfl)
    obtain rfl : [rI x4, rI x5, rI x6] = w := Option.some.inj (show some [rI x4, rI x5, rI x6] = some w from e6)
    exact (rF_b (r := 2483) (by decide) rfl).mp e7
  have f1 := ro_155.mp f1
  clear m1 m2 m3 m4
  have q0 : rB K n p 130 [rR x0, rI x1, rI x2, rI x4, rI x5] σ := ro_130.mpr ⟨_, hM, by
    refine ⟨f0.1, f0.2.1, f0.2.2.1, fun r h1 h2 => ?_⟩
    by_cases c : r = x5.toInt
    · rw [c]
      intro h
      unfold rA1 at h
      rw [← f1] at h
      rcases h with ⟨h3, -⟩ | ⟨h3, h4, -⟩
      · omega
      · omega
    · exact f0.2.2.2 r h1 (by omega)⟩
  exact ⟨p, fun _ => rfl, ⟨(fun q h => by cases h), fun q h => (by cases h), (fun f h => by cases h), (aAllc ⟨_, rfl, (rF_b (r := 2085) (by decide) rfl).mpr q0⟩ (fun f h => by cases h))⟩, [], List.mem_cons_self, fun f h => (by cases h)⟩
theorem rw_rvK0 {K : Nat → Nat} {n : Nat} {JX : (Nat → jcell) → Prop} : aGho (rF K n) fa_T K n JX ag_rvK0 := by
  refine aGho_of ⟨rfl, rfl⟩ ?_
  intro p σ ρ hH hX hA hM0
  have hG := aAG_of hA.1 (fun i e v he hv => (hA.2 i e v he hv).1)
  clear hA
  obtain ⟨v0, v1, v2, rfl, g0, g1, g2⟩ := rA_3 hG
  clear hG
  obtain ⟨x0, rfl, b0, d0⟩ := rG_ref (by decide) g0
  obtain ⟨x1, rfl, b1, d1⟩ := aG_int g1
  dsimp only at b1 d1
  obtain ⟨x2, rfl, b2, d2⟩ := aG_int g2
  dsimp only at b2 d2
  obtain ⟨m1, m2, m3, m4⟩ := hM0
  obtain ⟨M, hM⟩ := rMe_ex hH b0 d0
  clear m1 m2 m3 m4
  have q0 : rB K n p 137 [rR x0, rI x1, rI x2] σ := ro_137.mpr ⟨_, hM, by
    intro j h1 h2
    omega⟩
  exact ⟨p, fun _ => rfl, ⟨(fun q h => by cases h), fun q h => (by cases h), (fun f h => by cases h), (aAllc ⟨_, rfl, (rF_b (r := 2195) (by decide) rfl).mpr q0⟩ (fun f h => by cases h))⟩, [], List.mem_cons_self, fun f h => (by cases h)⟩
theorem rw_rvKb {K : Nat → Nat} {n : Nat} {JX : (Nat → jcell) → Prop} : aGho (rF K n) fa_T K n JX ag_rvKb := by
  refine aGho_of ⟨rfl, rfl⟩ ?_
  intro p σ ρ hH hX hA hM0
  have hG := aAG_of hA.1 (fun i e v he hv => (hA.2 i e v he hv).1)
  clear hA
  obtain ⟨v0, v1, v2, rfl, g0, g1, g2⟩ := rA_3 hG
  clear hG
  obtain ⟨x0, rfl, b0, d0⟩ := rG_ref (by decide) g0
  obtain ⟨x1, rfl, b1, d1⟩ := aG_int g1
  dsimp only at b1 d1
  obtain ⟨x2, rfl, b2, d2⟩ := aG_int g2
  dsimp only at b2 d2
  obtain ⟨m1, m2, m3, m4⟩ := hM0
  obtain ⟨M, hM⟩ := rMe_ex hH b0 d0
  have f0 : rB K n p 139 [rR x0] σ := by
    obtain ⟨w, e6, e7⟩ := m4 (2225, [0]) (List.mem_of_getElem? (i := 0) rfl)
    obtain rfl : [rR x0] = w := Option.some.inj (show some [rR x0] = some w from e6)
    exact (rF_b (r := 2225) (by decide) rfl).mp e7
  obtain ⟨M9, h9, f0⟩ := ro_139.mp f0
  obtain rfl := rMg_u hM h9
  clear h9
  have f1 : rB K n p 137 [rR x0, rI x1, rI x2] σ := by
    obtain ⟨w, e6, e7⟩ := m4 (2195, [0, 1, 2]) (List.mem_of_getElem? (i := 1) rfl)
    obtain rfl : [rR x0, rI x1, rI x2] = w := Option.some.inj (show some [rR x0, rI x1, rI x2] = some w from e6)
    exact (rF_b (r := 2195) (by decide) rfl).mp e7
  obtain ⟨M9, h9, f1⟩ := ro_137.mp f1
  obtain rfl := rMg_u hM h9
  clear h9
  clear m1 m2 m3 m4
  have r0 : 0 ≤ (-1 * x2.toInt + 0) + 63 := by
    by_cases c : 63 < x2.toInt
    · obtain ⟨j, h1, h2, h3, -⟩ := f0 x1.toInt b1 d1
      exact absurd h3 (f1 j h1 (by omega))
    · omega
  exact ⟨p, fun _ => rfl, ⟨(fun q h => by cases h), fun q h => (by cases h), (aAllc ⟨_, rfl, r0⟩ (fun f h => by cases h)), (fun f h => by cases h)⟩, [], List.mem_cons_self, fun f h => (by cases h)⟩
theorem rw_rvKnu {K : Nat → Nat} {n : Nat} {JX : (Nat → jcell) → Prop} : aGho (rF K n) fa_T K n JX ag_rvKnu := by
  refine aGho_of ⟨rfl, rfl⟩ ?_
  intro p σ ρ hH hX hA hM0
  have hG := aAG_of hA.1 (fun i e v he hv => (hA.2 i e v he hv).1)
  clear hA
  obtain ⟨v0, v1, v2, v3, v4, v5, rfl, g0, g1, g2, g3, g4, g5⟩ := rA_6 hG
  clear hG
  obtain ⟨x0, rfl, b0, d0⟩ := rG_ref (by decide) g0
  obtain ⟨x1, rfl, b1, d1⟩ := aG_int g1
  dsimp only at b1 d1
  obtain ⟨x2, rfl, b2, d2⟩ := aG_int g2
  dsimp only at b2 d2
  obtain ⟨x3, rfl, b3, d3⟩ := aG_int g3
  dsimp only at b3 d3
  obtain ⟨x4, rfl, b4, d4⟩ := aG_int g4
  dsimp only at b4 d4
  obtain ⟨x5, rfl, b5, d5⟩ := rG_ref (by decide) g5
  obtain ⟨m1, m2, m3, m4⟩ := hM0
  obtain ⟨M, hM⟩ := rMe_ex hH b0 d0
  obtain ⟨a0, c0, fs0, w0, e1, s0, t0, e4⟩ := m1 (0, 2, 5) (List.mem_of_getElem? (i := 0) rfl)
  obtain rfl : x0 = a0 := Sum.inl.inj (Option.some.inj (Sum.inr.inj (Sum.inr.inj (Option.some.inj (show some (rR x0) = some _ from e1)))))
  obtain rfl : rR x5 = w0 := Option.some.inj (show some (rR x5) = some w0 from e4)
  clear e1 e4
  obtain ⟨a, mc0, ty0, gc0, ic0, e1, sc0, jc0, e4, e5⟩ := m2 (5, ([(2, 1)], 0), 3) (List.mem_of_getElem? (i := 0) rfl)
  obtain rfl : x5 = a := Sum.inl.inj (Option.some.inj (Sum.inr.inj (Sum.inr.inj (Option.some.inj (show some (rR x5) = some _ from e1)))))
  obtain ⟨gc0, rfl⟩ : ∃ g, gc0 = .inl g := by
    rcases gc0 with g | g
    · exact ⟨g, rfl⟩
    · exact absurd (show some (rI x3) = some (.inr (.inl (g ic0))) from e5) (fun h => by cases h)
  have sc0 : σ x5 = .inl (ty0, mc0, .inl gc0) := sc0
  have ec0 : x3 = gc0 ic0 := Sum.inl.inj (Option.some.inj (show some (rI x3) = some _ from e5))
  have kc0 : (ic0 : Int) = (1 * x2.toInt + 0) + 0 := by
    obtain ⟨z, e6, e7⟩ := e4
    obtain rfl : (1 * x2.toInt + 0) = z := Option.some.inj (show some (1 * x2.toInt + 0) = some z from e6)
    exact e7
  clear e1 e4 e5
  have l0 : 0 ≤ (1 * x4.toInt + (-8 * x1.toInt + 0)) + -6 := by
    obtain ⟨z, e6, e7⟩ := m3 ([(4, 1), (1, -8)], -6) (List.mem_of_getElem? (i := 0) rfl)
    obtain rfl : (1 * x4.toInt + (-8 * x1.toInt + 0)) = z := Option.some.inj (show some (1 * x4.toInt + (-8 * x1.toInt + 0)) = some z from e6)
    exact e7
  have l1 : 0 ≤ (-1 * x4.toInt + (8 * x1.toInt + 0)) + 6 := by
    obtain ⟨z, e6, e7⟩ := m3 ([(4, -1), (1, 8)], 6) (List.mem_of_getElem? (i := 1) rfl)
    obtain rfl : (-1 * x4.toInt + (8 * x1.toInt + 0)) = z := Option.some.inj (show some (-1 * x4.toInt + (8 * x1.toInt + 0)) = some z from e6)
    exact e7
  have l2 : 0 ≤ (1 * x3.toInt + (-1 * x4.toInt + 0)) + -1 := by
    obtain ⟨z, e6, e7⟩ := m3 ([(3, 1), (4, -1)], -1) (List.mem_of_getElem? (i := 2) rfl)
    obtain rfl : (1 * x3.toInt + (-1 * x4.toInt + 0)) = z := Option.some.inj (show some (1 * x3.toInt + (-1 * x4.toInt + 0)) = some z from e6)
    exact e7
  have y0 : M x2.toInt = x3.toInt := rMg_c hM s0 t0 sc0 (by omega) (by omega) (by omega) ec0
  have f0 : rB K n p 137 [rR x0, rI x1, rI x2] σ := by
    obtain ⟨w, e6, e7⟩ := m4 (2195, [0, 1, 2]) (List.mem_of_getElem? (i := 0) rfl)
    obtain rfl : [rR x0, rI x1, rI x2] = w := Option.some.inj (show some [rR x0, rI x1, rI x2] = some w from e6)
    exact (rF_b (r := 2195) (by decide) rfl).mp e7
  obtain ⟨M9, h9, f0⟩ := ro_137.mp f0
  obtain rfl := rMg_u hM h9
  clear h9
  clear m1 m2 m3 m4
  have q0 : rB K n p 145 [rR x0, rI x1, rI x2] σ := ro_145.mpr ⟨_, hM, by
    intro j h1 h2
    by_cases c : j = x2.toInt
    · rw [c]; omega
    · exact f0 j h1 (by omega)⟩
  exact ⟨p, fun _ => rfl, ⟨(fun q h => by cases h), fun q h => (by cases h), (fun f h => by cases h), (aAllc ⟨_, rfl, (rF_b (r := 2323) (by decide) rfl).mpr q0⟩ (fun f h => by cases h))⟩, [], List.mem_cons_self, fun f h => (by cases h)⟩
theorem rw_rvKnd {K : Nat → Nat} {n : Nat} {JX : (Nat → jcell) → Prop} : aGho (rF K n) fa_T K n JX ag_rvKnd := by
  refine aGho_of ⟨rfl, rfl⟩ ?_
  intro p σ ρ hH hX hA hM0
  have hG := aAG_of hA.1 (fun i e v he hv => (hA.2 i e v he hv).1)
  clear hA
  obtain ⟨v0, v1, v2, v3, v4, v5, rfl, g0, g1, g2, g3, g4, g5⟩ := rA_6 hG
  clear hG
  obtain ⟨x0, rfl, b0, d0⟩ := rG_ref (by decide) g0
  obtain ⟨x1, rfl, b1, d1⟩ := aG_int g1
  dsimp only at b1 d1
  obtain ⟨x2, rfl, b2, d2⟩ := aG_int g2
  dsimp only at b2 d2
  obtain ⟨x3, rfl, b3, d3⟩ := aG_int g3
  dsimp only at b3 d3
  obtain ⟨x4, rfl, b4, d4⟩ := aG_int g4
  dsimp only at b4 d4
  obtain ⟨x5, rfl, b5, d5⟩ := rG_ref (by decide) g5
  obtain ⟨m1, m2, m3, m4⟩ := hM0
  obtain ⟨M, hM⟩ := rMe_ex hH b0 d0
  obtain ⟨a0, c0, fs0, w0, e1, s0, t0, e4⟩ := m1 (0, 2, 5) (List.mem_of_getElem? (i := 0) rfl)
  obtain rfl : x0 = a0 := Sum.inl.inj (Option.some.inj (Sum.inr.inj (Sum.inr.inj (Option.some.inj (show some (rR x0) = some _ from e1)))))
  obtain rfl : rR x5 = w0 := Option.some.inj (show some (rR x5) = some w0 from e4)
  clear e1 e4
  obtain ⟨a, mc0, ty0, gc0, ic0, e1, sc0, jc0, e4, e5⟩ := m2 (5, ([(2, 1)], 0), 3) (List.mem_of_getElem? (i := 0) rfl)
  obtain rfl : x5 = a := Sum.inl.inj (Option.some.inj (Sum.inr.inj (Sum.inr.inj (Option.some.inj (show some (rR x5) = some _ from e1)))))
  obtain ⟨gc0, rfl⟩ : ∃ g, gc0 = .inl g := by
    rcases gc0 with g | g
    · exact ⟨g, rfl⟩
    · exact absurd (show some (rI x3) = some (.inr (.inl (g ic0))) from e5) (fun h => by cases h)
  have sc0 : σ x5 = .inl (ty0, mc0, .inl gc0) := sc0
  have ec0 : x3 = gc0 ic0 := Sum.inl.inj (Option.some.inj (show some (rI x3) = some _ from e5))
  have kc0 : (ic0 : Int) = (1 * x2.toInt + 0) + 0 := by
    obtain ⟨z, e6, e7⟩ := e4
    obtain rfl : (1 * x2.toInt + 0) = z := Option.some.inj (show some (1 * x2.toInt + 0) = some z from e6)
    exact e7
  clear e1 e4 e5
  have l0 : 0 ≤ (1 * x4.toInt + (-8 * x1.toInt + 0)) + -6 := by
    obtain ⟨z, e6, e7⟩ := m3 ([(4, 1), (1, -8)], -6) (List.mem_of_getElem? (i := 0) rfl)
    obtain rfl : (1 * x4.toInt + (-8 * x1.toInt + 0)) = z := Option.some.inj (show some (1 * x4.toInt + (-8 * x1.toInt + 0)) = some z from e6)
    exact e7
  have l1 : 0 ≤ (-1 * x4.toInt + (8 * x1.toInt + 0)) + 6 := by
    obtain ⟨z, e6, e7⟩ := m3 ([(4, -1), (1, 8)], 6) (List.mem_of_getElem? (i := 1) rfl)
    obtain rfl : (-1 * x4.toInt + (8 * x1.toInt + 0)) = z := Option.some.inj (show some (-1 * x4.toInt + (8 * x1.toInt + 0)) = some z from e6)
    exact e7
  have l2 : 0 ≤ (-1 * x3.toInt + (1 * x4.toInt + 0)) + -1 := by
    obtain ⟨z, e6, e7⟩ := m3 ([(3, -1), (4, 1)], -1) (List.mem_of_getElem? (i := 2) rfl)
    obtain rfl : (-1 * x3.toInt + (1 * x4.toInt + 0)) = z := Option.some.inj (show some (-1 * x3.toInt + (1 * x4.toInt + 0)) = some z from e6)
    exact e7
  have y0 : M x2.toInt = x3.toInt := rMg_c hM s0 t0 sc0 (by omega) (by omega) (by omega) ec0
  have f0 : rB K n p 137 [rR x0, rI x1, rI x2] σ := by
    obtain ⟨w, e6, e7⟩ := m4 (2195, [0, 1, 2]) (List.mem_of_getElem? (i := 0) rfl)
    obtain rfl : [rR x0, rI x1, rI x2] = w := Option.some.inj (show some [rR x0, rI x1, rI x2] = some w from e6)
    exact (rF_b (r := 2195) (by decide) rfl).mp e7
  obtain ⟨M9, h9, f0⟩ := ro_137.mp f0
  obtain rfl := rMg_u hM h9
  clear h9
  clear m1 m2 m3 m4
  have q0 : rB K n p 145 [rR x0, rI x1, rI x2] σ := ro_145.mpr ⟨_, hM, by
    intro j h1 h2
    by_cases c : j = x2.toInt
    · rw [c]; omega
    · exact f0 j h1 (by omega)⟩
  exact ⟨p, fun _ => rfl, ⟨(fun q h => by cases h), fun q h => (by cases h), (fun f h => by cases h), (aAllc ⟨_, rfl, (rF_b (r := 2323) (by decide) rfl).mpr q0⟩ (fun f h => by cases h))⟩, [], List.mem_cons_self, fun f h => (by cases h)⟩
theorem rw_rvKs {K : Nat → Nat} {n : Nat} {JX : (Nat → jcell) → Prop} : aGho (rF K n) fa_T K n JX ag_rvKs := by
  refine aGho_of ⟨rfl, rfl⟩ ?_
  intro p σ ρ hH hX hA hM0
  have hG := aAG_of hA.1 (fun i e v he hv => (hA.2 i e v he hv).1)
  clear hA
  obtain ⟨v0, v1, v2, v3, rfl, g0, g1, g2, g3⟩ := rA_4 hG
  clear hG
  obtain ⟨x0, rfl, b0, d0⟩ := rG_ref (by decide) g0
  obtain ⟨x1, rfl, b1, d1⟩ := aG_int g1
  dsimp only at b1 d1
  obtain ⟨x2, rfl, b2, d2⟩ := aG_int g2
  dsimp only at b2 d2
  obtain ⟨x3, rfl, b3, d3⟩ := aG_int g3
  dsimp only at b3 d3
  obtain ⟨m1, m2, m3, m4⟩ := hM0
  obtain ⟨M, hM⟩ := rMe_ex hH b0 d0
  have l0 : 0 ≤ (1 * x3.toInt + (-1 * x2.toInt + 0)) + -1 := by
    obtain ⟨z, e6, e7⟩ := m3 ([(3, 1), (2, -1)], -1) (List.mem_of_getElem? (i := 0) rfl)
    obtain rfl : (1 * x3.toInt + (-1 * x2.toInt + 0)) = z := Option.some.inj (show some (1 * x3.toInt + (-1 * x2.toInt + 0)) = some z from e6)
    exact e7
  have l1 : 0 ≤ (-1 * x3.toInt + (1 * x2.toInt + 0)) + 1 := by
    obtain ⟨z, e6, e7⟩ := m3 ([(3, -1), (2, 1)], 1) (List.mem_of_getElem? (i := 1) rfl)
    obtain rfl : (-1 * x3.toInt + (1 * x2.toInt + 0)) = z := Option.some.inj (show some (-1 * x3.toInt + (1 * x2.toInt + 0)) = some z from e6)
    exact e7
  have f0 : rB K n p 145 [rR x0, rI x1, rI x2] σ := by
    obtain ⟨w, e6, e7⟩ := m4 (2323, [0, 1, 2]) (List.mem_of_getElem? (i := 0) rfl)
    obtain rfl : [rR x0, rI x1, rI x2] = w := Option.some.inj (show some [rR x0, rI x1, rI x2] = some w from e6)
    exact (rF_b (r := 2323) (by decide) rfl).mp e7
  obtain ⟨M9, h9, f0⟩ := ro_145.mp f0
  obtain rfl := rMg_u hM h9
  clear h9
  clear m1 m2 m3 m4
  have q0 : rB K n p 137 [rR x0, rI x1, rI x3] σ := ro_137.mpr ⟨_, hM, by
    intro j h1 h2
    exact f0 j h1 (by omega)⟩
  exact ⟨p, fun _ => rfl, ⟨(fun q h => by cases h), fun q h => (by cases h), (fun f h => by cases h), (aAllc ⟨_, rfl, (rF_b (r := 2195) (by decide) rfl).mpr q0⟩ (fun f h => by cases h))⟩, [], List.mem_cons_self, fun f h => (by cases h)⟩
theorem rw_rvKO {K : Nat → Nat} {n : Nat} {JX : (Nat → jcell) → Prop} : aGho (rF K n) fa_T K n JX ag_rvKO := by
  refine aGho_of ⟨rfl, rfl⟩ ?_
  intro p σ ρ hH hX hA hM0
  have hG := aAG_of hA.1 (fun i e v he hv => (hA.2 i e v he hv).1)
  clear hA
  obtain ⟨v0, v1, v2, v3, v4, rfl, g0, g1, g2, g3, g4⟩ := rA_5 hG
  clear hG
  obtain ⟨x0, rfl, b0, d0⟩ := rG_ref (by decide) g0
  obtain ⟨x1, rfl, b1, d1⟩ := aG_int g1
  dsimp only at b1 d1
  obtain ⟨x2, rfl, b2, d2⟩ := aG_int g2
  dsimp only at b2 d2
  obtain ⟨x3, rfl, b3, d3⟩ := aG_int g3
  dsimp only at b3 d3
  obtain ⟨x4, rfl, b4, d4⟩ := rG_ref (by decide) g4
  obtain ⟨m1, m2, m3, m4⟩ := hM0
  obtain ⟨M, hM⟩ := rMe_ex hH b0 d0
  obtain ⟨a0, c0, fs0, w0, e1, s0, t0, e4⟩ := m1 (0, 2, 4) (List.mem_of_getElem? (i := 0) rfl)
  obtain rfl : x0 = a0 := Sum.inl.inj (Option.some.inj (Sum.inr.inj (Sum.inr.inj (Option.some.inj (show some (rR x0) = some _ from e1)))))
  obtain rfl : rR x4 = w0 := Option.some.inj (show some (rR x4) = some w0 from e4)
  clear e1 e4
  obtain ⟨a, mc0, ty0, gc0, ic0, e1, sc0, jc0, e4, e5⟩ := m2 (4, ([(2, 1)], 0), 3) (List.mem_of_getElem? (i := 0) rfl)
  obtain rfl : x4 = a := Sum.inl.inj (Option.some.inj (Sum.inr.inj (Sum.inr.inj (Option.some.inj (show some (rR x4) = some _ from e1)))))
  obtain ⟨gc0, rfl⟩ : ∃ g, gc0 = .inl g := by
    rcases gc0 with g | g
    · exact ⟨g, rfl⟩
    · exact absurd (show some (rI x3) = some (.inr (.inl (g ic0))) from e5) (fun h => by cases h)
  have sc0 : σ x4 = .inl (ty0, mc0, .inl gc0) := sc0
  have ec0 : x3 = gc0 ic0 := Sum.inl.inj (Option.some.inj (show some (rI x3) = some _ from e5))
  have kc0 : (ic0 : Int) = (1 * x2.toInt + 0) + 0 := by
    obtain ⟨z, e6, e7⟩ := e4
    obtain rfl : (1 * x2.toInt + 0) = z := Option.some.inj (show some (1 * x2.toInt + 0) = some z from e6)
    exact e7
  clear e1 e4 e5
  have l0 : 0 ≤ (1 * x3.toInt + (-8 * x1.toInt + 0)) + -6 := by
    obtain ⟨z, e6, e7⟩ := m3 ([(3, 1), (1, -8)], -6) (List.mem_of_getElem? (i := 0) rfl)
    obtain rfl : (1 * x3.toInt + (-8 * x1.toInt + 0)) = z := Option.some.inj (show some (1 * x3.toInt + (-8 * x1.toInt + 0)) = some z from e6)
    exact e7
  have l1 : 0 ≤ (-1 * x3.toInt + (8 * x1.toInt + 0)) + 6 := by
    obtain ⟨z, e6, e7⟩ := m3 ([(3, -1), (1, 8)], 6) (List.mem_of_getElem? (i := 1) rfl)
    obtain rfl : (-1 * x3.toInt + (8 * x1.toInt + 0)) = z := Option.some.inj (show some (-1 * x3.toInt + (8 * x1.toInt + 0)) = some z from e6)
    exact e7
  have y0 : M x2.toInt = x3.toInt := rMg_c hM s0 t0 sc0 (by omega) (by omega) (by omega) ec0
  have f0 : rB K n p 137 [rR x0, rI x1, rI x2] σ := by
    obtain ⟨w, e6, e7⟩ := m4 (2195, [0, 1, 2]) (List.mem_of_getElem? (i := 0) rfl)
    obtain rfl : [rR x0, rI x1, rI x2] = w := Option.some.inj (show some [rR x0, rI x1, rI x2] = some w from e6)
    exact (rF_b (r := 2195) (by decide) rfl).mp e7
  obtain ⟨M9, h9, f0⟩ := ro_137.mp f0
  obtain rfl := rMg_u hM h9
  clear h9
  clear m1 m2 m3 m4
  have q0 : rB K n p 138 [rR x0, rI x1, rI x2] σ := ro_138.mpr ⟨_, hM, by
    exact ⟨b2, d2, by omega, f0⟩⟩
  exact ⟨p, fun _ => rfl, ⟨(fun q h => by cases h), fun q h => (by cases h), (fun f h => by cases h), (aAllc ⟨_, rfl, (rF_b (r := 2211) (by decide) rfl).mpr q0⟩ (fun f h => by cases h))⟩, [], List.mem_cons_self, fun f h => (by cases h)⟩
theorem rw_rvIC {K : Nat → Nat} {n : Nat} {JX : (Nat → jcell) → Prop} : aGho (rF K n) fa_T K n JX ag_rvIC := by
  refine aGho_of ⟨rfl, rfl⟩ ?_
  intro p σ ρ hH hX hA hM0
  have hG := aAG_of hA.1 (fun i e v he hv => (hA.2 i e v he hv).1)
  clear hA
  obtain ⟨v0, v1, v2, v3, v4, rfl, g0, g1, g2, g3, g4⟩ := rA_5 hG
  clear hG
  obtain ⟨x0, rfl, b0, d0⟩ := rG_ref (by decide) g0
  obtain ⟨x1, rfl, b1, d1⟩ := aG_int g1
  dsimp only at b1 d1
  obtain ⟨x2, rfl, b2, d2⟩ := aG_int g2
  dsimp only at b2 d2
  obtain ⟨x3, rfl, b3, d3⟩ := aG_int g3
  dsimp only at b3 d3
  obtain ⟨x4, rfl, b4, d4⟩ := aG_int g4
  dsimp only at b4 d4
  obtain ⟨m1, m2, m3, m4⟩ := hM0
  obtain ⟨M, hM⟩ := rMe_ex hH b0 d0
  have l0 : 0 ≤ (1 * x3.toInt + (1 * x1.toInt + 0)) + -1 := by
    obtain ⟨z, e6, e7⟩ := m3 ([(3, 1), (1, 1)], -1) (List.mem_of_getElem? (i := 0) rfl)
    obtain rfl : (1 * x3.toInt + (1 * x1.toInt + 0)) = z := Option.some.inj (show some (1 * x3.toInt + (1 * x1.toInt + 0)) = some z from e6)
    exact e7
  have l1 : 0 ≤ (-1 * x3.toInt + (-1 * x1.toInt + 0)) + 1 := by
    obtain ⟨z, e6, e7⟩ := m3 ([(3, -1), (1, -1)], 1) (List.mem_of_getElem? (i := 1) rfl)
    obtain rfl : (-1 * x3.toInt + (-1 * x1.toInt + 0)) = z := Option.some.inj (show some (-1 * x3.toInt + (-1 * x1.toInt + 0)) = some z from e6)
    exact e7
  have f0 : rB K n p 138 [rR x0, rI x1, rI x2] σ := by
    obtain ⟨w, e6, e7⟩ := m4 (2211, [0, 1, 2]) (List.mem_of_getElem? (i := 0) rfl)
    obtain rfl : [rR x0, rI x1, rI x2] = w := Option.some.inj (show some [rR x0, rI x1, rI x2] = some w from e6)
    exact (rF_b (r := 2211) (by decide) rfl).mp e7
  obtain ⟨M9, h9, f0⟩ := ro_138.mp f0
  obtain rfl := rMg_u hM h9
  clear h9
  have f1 : rB K n p 132 [rR x0, rI x2, rI x3, rI x4] σ := by
    obtain ⟨w, e6, e7⟩ := m4 (2116, [0, 2, 3, 4]) (List.mem_of_getElem? (i := 1) rfl)
    obtain rfl : [rR x0, rI x2, rI x3, rI x4] = w := Option.some.inj (show some [rR x0, rI x2, rI x3, rI x4] = some w from e6)
    exact (rF_b (r := 2116) (by decide) rfl).mp e7
  obtain ⟨M9, h9, f1⟩ := ro_132.mp f1
  obtain rfl := rMg_u hM h9
  clear h9
  clear m1 m2 m3 m4
  have q0 : rB K n p 140 [rR x0, rI x1, rI x4] σ := ro_140.mpr ⟨_, hM, by
    exact ⟨x2.toInt, f0, by rw [show 1 - x1.toInt = x3.toInt by omega]; exact f1⟩⟩
  exact ⟨p, fun _ => rfl, ⟨(fun q h => by cases h), fun q h => (by cases h), (fun f h => by cases h), (aAllc ⟨_, rfl, (rF_b (r := 2243) (by decide) rfl).mpr q0⟩ (fun f h => by cases h))⟩, [], List.mem_cons_self, fun f h => (by cases h)⟩
theorem rw_rvB0 {K : Nat → Nat} {n : Nat} {JX : (Nat → jcell) → Prop} : aGho (rF K n) fa_T K n JX ag_rvB0 := by
  refine aGho_of ⟨rfl, rfl⟩ ?_
  intro p σ ρ hH hX hA hM0
  have hG := aAG_of hA.1 (fun i e v he hv => (hA.2 i e v he hv).1)
  clear hA
  obtain ⟨v0, v1, rfl, g0, g1⟩ := rA_2 hG
  clear hG
  obtain ⟨x0, rfl, b0, d0⟩ := aG_int g0
  dsimp only at b0 d0
  obtain ⟨x1, rfl⟩ := aG_lng g1
  obtain ⟨m1, m2, m3, m4⟩ := hM0
  have l0 : 0 ≤ (1 * x1.toInt + 0) + 0 := by
    obtain ⟨z, e6, e7⟩ := m3 ([(1, 1)], 0) (List.mem_of_getElem? (i := 0) rfl)
    obtain rfl : (1 * x1.toInt + 0) = z := Option.some.inj (show some (1 * x1.toInt + 0) = some z from e6)
    exact e7
  have l1 : 0 ≤ (-1 * x1.toInt + 0) + 0 := by
    obtain ⟨z, e6, e7⟩ := m3 ([(1, -1)], 0) (List.mem_of_getElem? (i := 1) rfl)
    obtain rfl : (-1 * x1.toInt + 0) = z := Option.some.inj (show some (-1 * x1.toInt + 0) = some z from e6)
    exact e7
  clear m1 m2 m3 m4
  have q0 : rB K n p 141 [rI x0, rL x1] σ := ro_141.mpr (by
    have e : x1 = 0 := Int64.toInt_inj.mp (by rw [show (0 : Int64).toInt = 0 from rfl]; omega)
    intro u h1 h2
    rw [e]
    exact ⟨fun h => absurd h rBt_0, fun h => by omega⟩)
  exact ⟨p, fun _ => rfl, ⟨(fun q h => by cases h), fun q h => (by cases h), (fun f h => by cases h), (aAllc ⟨_, rfl, (rF_b (r := 2258) (by decide) rfl).mpr q0⟩ (fun f h => by cases h))⟩, [], List.mem_cons_self, fun f h => (by cases h)⟩
theorem rw_rvB1 {K : Nat → Nat} {n : Nat} {JX : (Nat → jcell) → Prop} : aGho (rF K n) fa_T K n JX ag_rvB1 := by
  refine aGho_of ⟨rfl, rfl⟩ ?_
  intro p σ ρ hH hX hA hM0
  have hG := aAG_of hA.1 (fun i e v he hv => (hA.2 i e v he hv).1)
  clear hA
  obtain ⟨v0, v1, v2, rfl, g0, g1, g2⟩ := rA_3 hG
  clear hG
  obtain ⟨x0, rfl, b0, d0⟩ := aG_int g0
  dsimp only at b0 d0
  obtain ⟨x1, rfl⟩ := aG_lng g1
  obtain ⟨x2, rfl⟩ := aG_lng g2
  obtain ⟨m1, m2, m3, m4⟩ := hM0
  have l0 : 0 ≤ (1 * x1.toInt + 0) + -1 := by
    obtain ⟨z, e6, e7⟩ := m3 ([(1, 1)], -1) (List.mem_of_getElem? (i := 0) rfl)
    obtain rfl : (1 * x1.toInt + 0) = z := Option.some.inj (show some (1 * x1.toInt + 0) = some z from e6)
    exact e7
  have l1 : 0 ≤ (-1 * x1.toInt + 0) + 1 := by
    obtain ⟨z, e6, e7⟩ := m3 ([(1, -1)], 1) (List.mem_of_getElem? (i := 1) rfl)
    obtain rfl : (-1 * x1.toInt + 0) = z := Option.some.inj (show some (-1 * x1.toInt + 0) = some z from e6)
    exact e7
  have f0 : rB K n p 102 [rL x1, rI x0, rL x2] σ := by
    obtain ⟨w, e6, e7⟩ := m4 (1635, [1, 0, 2]) (List.mem_of_getElem? (i := 0) rfl)
    obtain rfl : [rL x1, rI x0, rL x2] = w := Option.some.inj (show some [rL x1, rI x0, rL x2] = some w from e6)
    exact (rF_b (r := 1635) (by decide) rfl).mp e7
  have f0 : x2 = x1 <<< (x0.toInt64 &&& 63) := Sum.inl.inj (Sum.inr.inj (ro_102.mp f0))
  clear m1 m2 m3 m4
  have q0 : rB K n p 141 [rI x0, rL x2] σ := ro_141.mpr (by
    have e : x1 = 1 := Int64.toInt_inj.mp (by rw [show (1 : Int64).toInt = 1 from rfl]; omega)
    intro u h1 h2
    exact rBt_l e f0 (by omega) (by omega) h1 h2)
  exact ⟨p, fun _ => rfl, ⟨(fun q h => by cases h), fun q h => (by cases h), (fun f h => by cases h), (aAllc ⟨_, rfl, (rF_b (r := 2258) (by decide) rfl).mpr q0⟩ (fun f h => by cases h))⟩, [], List.mem_cons_self, fun f h => (by cases h)⟩
theorem rw_rvKD {K : Nat → Nat} {n : Nat} {JX : (Nat → jcell) → Prop} : aGho (rF K n) fa_T K n JX ag_rvKD := by
  refine aGho_of ⟨rfl, rfl⟩ ?_
  intro p σ ρ hH hX hA hM0
  have hG := aAG_of hA.1 (fun i e v he hv => (hA.2 i e v he hv).1)
  clear hA
  obtain ⟨v0, v1, v2, rfl, g0, g1, g2⟩ := rA_3 hG
  clear hG
  obtain ⟨x0, rfl, b0, d0⟩ := aG_int g0
  dsimp only at b0 d0
  obtain ⟨x1, rfl, b1, d1⟩ := aG_int g1
  dsimp only at b1 d1
  obtain ⟨x2, rfl, b2, d2⟩ := aG_int g2
  dsimp only at b2 d2
  obtain ⟨m1, m2, m3, m4⟩ := hM0
  have l0 : 0 ≤ (1 * x1.toInt + 0) + -7 := by
    obtain ⟨z, e6, e7⟩ := m3 ([(1, 1)], -7) (List.mem_of_getElem? (i := 0) rfl)
    obtain rfl : (1 * x1.toInt + 0) = z := Option.some.inj (show some (1 * x1.toInt + 0) = some z from e6)
    exact e7
  have l1 : 0 ≤ (-1 * x1.toInt + 0) + 7 := by
    obtain ⟨z, e6, e7⟩ := m3 ([(1, -1)], 7) (List.mem_of_getElem? (i := 1) rfl)
    obtain rfl : (-1 * x1.toInt + 0) = z := Option.some.inj (show some (-1 * x1.toInt + 0) = some z from e6)
    exact e7
  have f0 : rB K n p 111 [rI x0, rI x1, rI x2] σ := by
    obtain ⟨w, e6, e7⟩ := m4 (1779, [0, 1, 2]) (List.mem_of_getElem? (i := 0) rfl)
    obtain rfl : [rI x0, rI x1, rI x2] = w := Option.some.inj (show some [rI x0, rI x1, rI x2] = some w from e6)
    exact (rF_b (r := 1779) (by decide) rfl).mp e7
  have f0 : x2 = x0 &&& x1 := Sum.inl.inj (ro_111.mp f0)
  clear m1 m2 m3 m4
  have q0 : rB K n p 147 [rI x0, rI x2] σ := ro_147.mpr (by
    exact rAnd7 f0 (by omega) (by omega) (by omega))
  exact ⟨p, fun _ => rfl, ⟨(fun q h => by cases h), fun q h => (by cases h), (fun f h => by cases h), (aAllc ⟨_, rfl, (rF_b (r := 2354) (by decide) rfl).mpr q0⟩ (fun f h => by cases h))⟩, [], List.mem_cons_self, fun f h => (by cases h)⟩
theorem rw_rvOF0 {K : Nat → Nat} {n : Nat} {JX : (Nat → jcell) → Prop} : aGho (rF K n) fa_T K n JX ag_rvOF0 := by
  refine aGho_of ⟨rfl, rfl⟩ ?_
  intro p σ ρ hH hX hA hM0
  have hG := aAG_of hA.1 (fun i e v he hv => (hA.2 i e v he hv).1)
  clear hA
  obtain ⟨v0, v1, v2, v3, v4, v5, rfl, g0, g1, g2, g3, g4, g5⟩ := rA_6 hG
  clear hG
  obtain ⟨x0, rfl, b0, d0⟩ := rG_ref (by decide) g0
  obtain ⟨x1, rfl, b1, d1⟩ := aG_int g1
  dsimp only at b1 d1
  obtain ⟨x2, rfl, b2, d2⟩ := aG_int g2
  dsimp only at b2 d2
  obtain ⟨x3, rfl, b3, d3⟩ := aG_int g3
  dsimp only at b3 d3
  obtain ⟨x4, rfl, b4, d4⟩ := aG_int g4
  dsimp only at b4 d4
  obtain ⟨x5, rfl, b5, d5⟩ := rG_ref (by decide) g5
  obtain ⟨m1, m2, m3, m4⟩ := hM0
  obtain ⟨M, hM⟩ := rMe_ex hH b0 d0
  obtain ⟨a0, c0, fs0, w0, e1, s0, t0, e4⟩ := m1 (0, 2, 5) (List.mem_of_getElem? (i := 0) rfl)
  obtain rfl : x0 = a0 := Sum.inl.inj (Option.some.inj (Sum.inr.inj (Sum.inr.inj (Option.some.inj (show some (rR x0) = some _ from e1)))))
  obtain rfl : rR x5 = w0 := Option.some.inj (show some (rR x5) = some w0 from e4)
  clear e1 e4
  obtain ⟨a, mc0, ty0, gc0, ic0, e1, sc0, jc0, e4, e5⟩ := m2 (5, ([(1, 1)], 0), 3) (List.mem_of_getElem? (i := 0) rfl)
  obtain rfl : x5 = a := Sum.inl.inj (Option.some.inj (Sum.inr.inj (Sum.inr.inj (Option.some.inj (show some (rR x5) = some _ from e1)))))
  obtain ⟨gc0, rfl⟩ : ∃ g, gc0 = .inl g := by
    rcases gc0 with g | g
    · exact ⟨g, rfl⟩
    · exact absurd (show some (rI x3) = some (.inr (.inl (g ic0))) from e5) (fun h => by cases h)
  have sc0 : σ x5 = .inl (ty0, mc0, .inl gc0) := sc0
  have ec0 : x3 = gc0 ic0 := Sum.inl.inj (Option.some.inj (show some (rI x3) = some _ from e5))
  have kc0 : (ic0 : Int) = (1 * x1.toInt + 0) + 0 := by
    obtain ⟨z, e6, e7⟩ := e4
    obtain rfl : (1 * x1.toInt + 0) = z := Option.some.inj (show some (1 * x1.toInt + 0) = some z from e6)
    exact e7
  clear e1 e4 e5
  have y0 : M x1.toInt = x3.toInt := rMg_c hM s0 t0 sc0 (by omega) (by omega) (by omega) ec0
  clear m1 m2 m3 m4
  have q0 : rB K n p 156 [rR x0, rI x1, rI x2, rI x4] σ := ro_156.mpr ⟨_, hM, by
    omega⟩
  exact ⟨p, fun _ => rfl, ⟨(fun q h => by cases h), fun q h => (by cases h), (fun f h => by cases h), (aAllc ⟨_, rfl, (rF_b (r := 2500) (by decide) rfl).mpr q0⟩ (fun f h => by cases h))⟩, [], List.mem_cons_self, fun f h => (by cases h)⟩
theorem rw_rvOF1 {K : Nat → Nat} {n : Nat} {JX : (Nat → jcell) → Prop} : aGho (rF K n) fa_T K n JX ag_rvOF1 := by
  refine aGho_of ⟨rfl, rfl⟩ ?_
  intro p σ ρ hH hX hA hM0
  have hG := aAG_of hA.1 (fun i e v he hv => (hA.2 i e v he hv).1)
  clear hA
  obtain ⟨v0, v1, v2, v3, v4, v5, v6, v7, rfl, g0, g1, g2, g3, g4, g5, g6, g7⟩ := rA_8 hG
  clear hG
  obtain ⟨x0, rfl, b0, d0⟩ := rG_ref (by decide) g0
  obtain ⟨x1, rfl, b1, d1⟩ := aG_int g1
  dsimp only at b1 d1
  obtain ⟨x2, rfl, b2, d2⟩ := aG_int g2
  dsimp only at b2 d2
  obtain ⟨x3, rfl, b3, d3⟩ := aG_int g3
  dsimp only at b3 d3
  obtain ⟨x4, rfl, b4, d4⟩ := aG_int g4
  dsimp only at b4 d4
  obtain ⟨x5, rfl, b5, d5⟩ := aG_int g5
  dsimp only at b5 d5
  obtain ⟨x6, rfl, b6, d6⟩ := aG_int g6
  dsimp only at b6 d6
  obtain ⟨x7, rfl, b7, d7⟩ := rG_ref (by decide) g7
  obtain ⟨m1, m2, m3, m4⟩ := hM0
  obtain ⟨M, hM⟩ := rMe_ex hH b0 d0
  obtain ⟨a0, c0, fs0, w0, e1, s0, t0, e4⟩ := m1 (0, 2, 7) (List.mem_of_getElem? (i := 0) rfl)
  obtain rfl : x0 = a0 := Sum.inl.inj (Option.some.inj (Sum.inr.inj (Sum.inr.inj (Option.some.inj (show some (rR x0) = some _ from e1)))))
  obtain rfl : rR x7 = w0 := Option.some.inj (show some (rR x7) = some w0 from e4)
  clear e1 e4
  obtain ⟨a, mc0, ty0, gc0, ic0, e1, sc0, jc0, e4, e5⟩ := m2 (7, ([(1, 1)], 0), 3) (List.mem_of_getElem? (i := 0) rfl)
  obtain rfl : x7 = a := Sum.inl.inj (Option.some.inj (Sum.inr.inj (Sum.inr.inj (Option.some.inj (show some (rR x7) = some _ from e1)))))
  obtain ⟨gc0, rfl⟩ : ∃ g, gc0 = .inl g := by
    rcases gc0 with g | g
    · exact ⟨g, rfl⟩
    · exact absurd (show some (rI x3) = some (.inr (.inl (g ic0))) from e5) (fun h => by cases h)
  have sc0 : σ x7 = .inl (ty0, mc0, .inl gc0) := sc0
  have ec0 : x3 = gc0 ic0 := Sum.inl.inj (Option.some.inj (show some (rI x3) = some _ from e5))
  have kc0 : (ic0 : Int) = (1 * x1.toInt + 0) + 0 := by
    obtain ⟨z, e6, e7⟩ := e4
    obtain rfl : (1 * x1.toInt + 0) = z := Option.some.inj (show some (1 * x1.toInt + 0) = some z from e6)
    exact e7
  clear e1 e4 e5
  have l0 : 0 ≤ (1 * x4.toInt + 0) + -3 := by
    obtain ⟨z, e6, e7⟩ := m3 ([(4, 1)], -3) (List.mem_of_getElem? (i := 0) rfl)
    obtain rfl : (1 * x4.toInt + 0) = z := Option.some.inj (show some (1 * x4.toInt + 0) = some z from e6)
    exact e7
  have l1 : 0 ≤ (-1 * x4.toInt + 0) + 3 := by
    obtain ⟨z, e6, e7⟩ := m3 ([(4, -1)], 3) (List.mem_of_getElem? (i := 1) rfl)
    obtain rfl : (-1 * x4.toInt + 0) = z := Option.some.inj (show some (-1 * x4.toInt + 0) = some z from e6)
    exact e7
  have l2 : 0 ≤ (1 * x5.toInt + (-1 * x2.toInt + 0)) + 0 := by
    obtain ⟨z, e6, e7⟩ := m3 ([(5, 1), (2, -1)], 0) (List.mem_of_getElem? (i := 2) rfl)
    obtain rfl : (1 * x5.toInt + (-1 * x2.toInt + 0)) = z := Option.some.inj (show some (1 * x5.toInt + (-1 * x2.toInt + 0)) = some z from e6)
    exact e7
  have l3 : 0 ≤ (-1 * x5.toInt + (1 * x2.toInt + 0)) + 0 := by
    obtain ⟨z, e6, e7⟩ := m3 ([(5, -1), (2, 1)], 0) (List.mem_of_getElem? (i := 3) rfl)
    obtain rfl : (-1 * x5.toInt + (1 * x2.toInt + 0)) = z := Option.some.inj (show some (-1 * x5.toInt + (1 * x2.toInt + 0)) = some z from e6)
    exact e7
  have y0 : M x1.toInt = x3.toInt := rMg_c hM s0 t0 sc0 (by omega) (by omega) (by omega) ec0
  have f0 : rB K n p 114 [rI x3, rI x4, rI x5] σ := by
    obtain ⟨w, e6, e7⟩ := m4 (1827, [3, 4, 5]) (List.mem_of_getElem? (i := 0) rfl)
    obtain rfl : [rI x3, rI x4, rI x5] = w := Option.some.inj (show some [rI x3, rI x4, rI x5] = some w from e6)
    exact (rF_b (r := 1827) (by decide) rfl).mp e7
  have f0 : x5 = x3 >>> (x4 &&& 31) := Sum.inl.inj (ro_114.mp f0)
  clear m1 m2 m3 m4
  have q0 : rB K n p 156 [rR x0, rI x1, rI x2, rI x6] σ := ro_156.mpr ⟨_, hM, by
    have e := rShr3 f0 (by omega) (by omega) (by omega)
    omega⟩
  exact ⟨p, fun _ => rfl, ⟨(fun q h => by cases h), fun q h => (by cases h), (fun f h => by cases h), (aAllc ⟨_, rfl, (rF_b (r := 2500) (by decide) rfl).mpr q0⟩ (fun f h => by cases h))⟩, [], List.mem_cons_self, fun f h => (by cases h)⟩
theorem rw_rvOFu {K : Nat → Nat} {n : Nat} {JX : (Nat → jcell) → Prop} : aGho (rF K n) fa_T K n JX ag_rvOFu := by
  refine aGho_of ⟨rfl, rfl⟩ ?_
  intro p σ ρ hH hX hA hM0
  have hG := aAG_of hA.1 (fun i e v he hv => (hA.2 i e v he hv).1)
  clear hA
  obtain ⟨v0, v1, v2, v3, v4, v5, v6, v7, rfl, g0, g1, g2, g3, g4, g5, g6, g7⟩ := rA_8 hG
  clear hG
  obtain ⟨x0, rfl, b0, d0⟩ := rG_ref (by decide) g0
  obtain ⟨x1, rfl, b1, d1⟩ := aG_int g1
  dsimp only at b1 d1
  obtain ⟨x2, rfl, b2, d2⟩ := aG_int g2
  dsimp only at b2 d2
  obtain ⟨x3, rfl, b3, d3⟩ := aG_int g3
  dsimp only at b3 d3
  obtain ⟨x4, rfl, b4, d4⟩ := aG_int g4
  dsimp only at b4 d4
  obtain ⟨x5, rfl, b5, d5⟩ := aG_int g5
  dsimp only at b5 d5
  obtain ⟨x6, rfl, b6, d6⟩ := aG_int g6
  dsimp only at b6 d6
  obtain ⟨x7, rfl, b7, d7⟩ := rG_ref (by decide) g7
  obtain ⟨m1, m2, m3, m4⟩ := hM0
  obtain ⟨M, hM⟩ := rMe_ex hH b0 d0
  obtain ⟨a0, c0, fs0, w0, e1, s0, t0, e4⟩ := m1 (0, 2, 7) (List.mem_of_getElem? (i := 0) rfl)
  obtain rfl : x0 = a0 := Sum.inl.inj (Option.some.inj (Sum.inr.inj (Sum.inr.inj (Option.some.inj (show some (rR x0) = some _ from e1)))))
  obtain rfl : rR x7 = w0 := Option.some.inj (show some (rR x7) = some w0 from e4)
  clear e1 e4
  obtain ⟨a, mc0, ty0, gc0, ic0, e1, sc0, jc0, e4, e5⟩ := m2 (7, ([(1, 1)], 0), 3) (List.mem_of_getElem? (i := 0) rfl)
  obtain rfl : x7 = a := Sum.inl.inj (Option.some.inj (Sum.inr.inj (Sum.inr.inj (Option.some.inj (show some (rR x7) = some _ from e1)))))
  obtain ⟨gc0, rfl⟩ : ∃ g, gc0 = .inl g := by
    rcases gc0 with g | g
    · exact ⟨g, rfl⟩
    · exact absurd (show some (rI x3) = some (.inr (.inl (g ic0))) from e5) (fun h => by cases h)
  have sc0 : σ x7 = .inl (ty0, mc0, .inl gc0) := sc0
  have ec0 : x3 = gc0 ic0 := Sum.inl.inj (Option.some.inj (show some (rI x3) = some _ from e5))
  have kc0 : (ic0 : Int) = (1 * x1.toInt + 0) + 0 := by
    obtain ⟨z, e6, e7⟩ := e4
    obtain rfl : (1 * x1.toInt + 0) = z := Option.some.inj (show some (1 * x1.toInt + 0) = some z from e6)
    exact e7
  clear e1 e4 e5
  have l0 : 0 ≤ (1 * x4.toInt + 0) + -3 := by
    obtain ⟨z, e6, e7⟩ := m3 ([(4, 1)], -3) (List.mem_of_getElem? (i := 0) rfl)
    obtain rfl : (1 * x4.toInt + 0) = z := Option.some.inj (show some (1 * x4.toInt + 0) = some z from e6)
    exact e7
  have l1 : 0 ≤ (-1 * x4.toInt + 0) + 3 := by
    obtain ⟨z, e6, e7⟩ := m3 ([(4, -1)], 3) (List.mem_of_getElem? (i := 1) rfl)
    obtain rfl : (-1 * x4.toInt + 0) = z := Option.some.inj (show some (-1 * x4.toInt + 0) = some z from e6)
    exact e7
  have l2 : 0 ≤ (1 * x5.toInt + (-1 * x2.toInt + 0)) + -1 := by
    obtain ⟨z, e6, e7⟩ := m3 ([(5, 1), (2, -1)], -1) (List.mem_of_getElem? (i := 2) rfl)
    obtain rfl : (1 * x5.toInt + (-1 * x2.toInt + 0)) = z := Option.some.inj (show some (1 * x5.toInt + (-1 * x2.toInt + 0)) = some z from e6)
    exact e7
  have y0 : M x1.toInt = x3.toInt := rMg_c hM s0 t0 sc0 (by omega) (by omega) (by omega) ec0
  have f0 : rB K n p 114 [rI x3, rI x4, rI x5] σ := by
    obtain ⟨w, e6, e7⟩ := m4 (1827, [3, 4, 5]) (List.mem_of_getElem? (i := 0) rfl)
    obtain rfl : [rI x3, rI x4, rI x5] = w := Option.some.inj (show some [rI x3, rI x4, rI x5] = some w from e6)
    exact (rF_b (r := 1827) (by decide) rfl).mp e7
  have f0 : x5 = x3 >>> (x4 &&& 31) := Sum.inl.inj (ro_114.mp f0)
  clear m1 m2 m3 m4
  have q0 : rB K n p 156 [rR x0, rI x1, rI x2, rI x6] σ := ro_156.mpr ⟨_, hM, by
    have e := rShr3 f0 (by omega) (by omega) (by omega)
    omega⟩
  exact ⟨p, fun _ => rfl, ⟨(fun q h => by cases h), fun q h => (by cases h), (fun f h => by cases h), (aAllc ⟨_, rfl, (rF_b (r := 2500) (by decide) rfl).mpr q0⟩ (fun f h => by cases h))⟩, [], List.mem_cons_self, fun f h => (by cases h)⟩
theorem rw_rvOFd {K : Nat → Nat} {n : Nat} {JX : (Nat → jcell) → Prop} : aGho (rF K n) fa_T K n JX ag_rvOFd := by
  refine aGho_of ⟨rfl, rfl⟩ ?_
  intro p σ ρ hH hX hA hM0
  have hG := aAG_of hA.1 (fun i e v he hv => (hA.2 i e v he hv).1)
  clear hA
  obtain ⟨v0, v1, v2, v3, v4, v5, v6, v7, rfl, g0, g1, g2, g3, g4, g5, g6, g7⟩ := rA_8 hG
  clear hG
  obtain ⟨x0, rfl, b0, d0⟩ := rG_ref (by decide) g0
  obtain ⟨x1, rfl, b1, d1⟩ := aG_int g1
  dsimp only at b1 d1
  obtain ⟨x2, rfl, b2, d2⟩ := aG_int g2
  dsimp only at b2 d2
  obtain ⟨x3, rfl, b3, d3⟩ := aG_int g3
  dsimp only at b3 d3
  obtain ⟨x4, rfl, b4, d4⟩ := aG_int g4
  dsimp only at b4 d4
  obtain ⟨x5, rfl, b5, d5⟩ := aG_int g5
  dsimp only at b5 d5
  obtain ⟨x6, rfl, b6, d6⟩ := aG_int g6
  dsimp only at b6 d6
  obtain ⟨x7, rfl, b7, d7⟩ := rG_ref (by decide) g7
  obtain ⟨m1, m2, m3, m4⟩ := hM0
  obtain ⟨M, hM⟩ := rMe_ex hH b0 d0
  obtain ⟨a0, c0, fs0, w0, e1, s0, t0, e4⟩ := m1 (0, 2, 7) (List.mem_of_getElem? (i := 0) rfl)
  obtain rfl : x0 = a0 := Sum.inl.inj (Option.some.inj (Sum.inr.inj (Sum.inr.inj (Option.some.inj (show some (rR x0) = some _ from e1)))))
  obtain rfl : rR x7 = w0 := Option.some.inj (show some (rR x7) = some w0 from e4)
  clear e1 e4
  obtain ⟨a, mc0, ty0, gc0, ic0, e1, sc0, jc0, e4, e5⟩ := m2 (7, ([(1, 1)], 0), 3) (List.mem_of_getElem? (i := 0) rfl)
  obtain rfl : x7 = a := Sum.inl.inj (Option.some.inj (Sum.inr.inj (Sum.inr.inj (Option.some.inj (show some (rR x7) = some _ from e1)))))
  obtain ⟨gc0, rfl⟩ : ∃ g, gc0 = .inl g := by
    rcases gc0 with g | g
    · exact ⟨g, rfl⟩
    · exact absurd (show some (rI x3) = some (.inr (.inl (g ic0))) from e5) (fun h => by cases h)
  have sc0 : σ x7 = .inl (ty0, mc0, .inl gc0) := sc0
  have ec0 : x3 = gc0 ic0 := Sum.inl.inj (Option.some.inj (show some (rI x3) = some _ from e5))
  have kc0 : (ic0 : Int) = (1 * x1.toInt + 0) + 0 := by
    obtain ⟨z, e6, e7⟩ := e4
    obtain rfl : (1 * x1.toInt + 0) = z := Option.some.inj (show some (1 * x1.toInt + 0) = some z from e6)
    exact e7
  clear e1 e4 e5
  have l0 : 0 ≤ (1 * x4.toInt + 0) + -3 := by
    obtain ⟨z, e6, e7⟩ := m3 ([(4, 1)], -3) (List.mem_of_getElem? (i := 0) rfl)
    obtain rfl : (1 * x4.toInt + 0) = z := Option.some.inj (show some (1 * x4.toInt + 0) = some z from e6)
    exact e7
  have l1 : 0 ≤ (-1 * x4.toInt + 0) + 3 := by
    obtain ⟨z, e6, e7⟩ := m3 ([(4, -1)], 3) (List.mem_of_getElem? (i := 1) rfl)
    obtain rfl : (-1 * x4.toInt + 0) = z := Option.some.inj (show some (-1 * x4.toInt + 0) = some z from e6)
    exact e7
  have l2 : 0 ≤ (-1 * x5.toInt + (1 * x2.toInt + 0)) + -1 := by
    obtain ⟨z, e6, e7⟩ := m3 ([(5, -1), (2, 1)], -1) (List.mem_of_getElem? (i := 2) rfl)
    obtain rfl : (-1 * x5.toInt + (1 * x2.toInt + 0)) = z := Option.some.inj (show some (-1 * x5.toInt + (1 * x2.toInt + 0)) = some z from e6)
    exact e7
  have y0 : M x1.toInt = x3.toInt := rMg_c hM s0 t0 sc0 (by omega) (by omega) (by omega) ec0
  have f0 : rB K n p 114 [rI x3, rI x4, rI x5] σ := by
    obtain ⟨w, e6, e7⟩ := m4 (1827, [3, 4, 5]) (List.mem_of_getElem? (i := 0) rfl)
    obtain rfl : [rI x3, rI x4, rI x5] = w := Option.some.inj (show some [rI x3, rI x4, rI x5] = some w from e6)
    exact (rF_b (r := 1827) (by decide) rfl).mp e7
  have f0 : x5 = x3 >>> (x4 &&& 31) := Sum.inl.inj (ro_114.mp f0)
  clear m1 m2 m3 m4
  have q0 : rB K n p 156 [rR x0, rI x1, rI x2, rI x6] σ := ro_156.mpr ⟨_, hM, by
    have e := rShr3 f0 (by omega) (by omega) (by omega)
    omega⟩
  exact ⟨p, fun _ => rfl, ⟨(fun q h => by cases h), fun q h => (by cases h), (fun f h => by cases h), (aAllc ⟨_, rfl, (rF_b (r := 2500) (by decide) rfl).mpr q0⟩ (fun f h => by cases h))⟩, [], List.mem_cons_self, fun f h => (by cases h)⟩
theorem rw_rvW0 {K : Nat → Nat} {n : Nat} {JX : (Nat → jcell) → Prop} : aGho (rF K n) fa_T K n JX ag_rvW0 := by
  refine aGho_of ⟨rfl, rfl⟩ ?_
  intro p σ ρ hH hX hA hM0
  have hG := aAG_of hA.1 (fun i e v he hv => (hA.2 i e v he hv).1)
  clear hA
  obtain ⟨v0, v1, v2, v3, v4, v5, rfl, g0, g1, g2, g3, g4, g5⟩ := rA_6 hG
  clear hG
  obtain ⟨x0, rfl, b0, d0⟩ := rG_ref (by decide) g0
  obtain ⟨x1, rfl, b1, d1⟩ := aG_int g1
  dsimp only at b1 d1
  obtain ⟨x2, rfl, b2, d2⟩ := aG_int g2
  dsimp only at b2 d2
  obtain ⟨x3, rfl, b3, d3⟩ := aG_int g3
  dsimp only at b3 d3
  obtain ⟨x4, rfl, b4, d4⟩ := aG_int g4
  dsimp only at b4 d4
  obtain ⟨x5, rfl⟩ := aG_lng g5
  obtain ⟨m1, m2, m3, m4⟩ := hM0
  obtain ⟨M, hM⟩ := rMe_ex hH b0 d0
  have l0 : 0 ≤ (1 * x5.toInt + 0) + 0 := by
    obtain ⟨z, e6, e7⟩ := m3 ([(5, 1)], 0) (List.mem_of_getElem? (i := 0) rfl)
    obtain rfl : (1 * x5.toInt + 0) = z := Option.some.inj (show some (1 * x5.toInt + 0) = some z from e6)
    exact e7
  have l1 : 0 ≤ (-1 * x5.toInt + 0) + 0 := by
    obtain ⟨z, e6, e7⟩ := m3 ([(5, -1)], 0) (List.mem_of_getElem? (i := 1) rfl)
    obtain rfl : (-1 * x5.toInt + 0) = z := Option.some.inj (show some (-1 * x5.toInt + 0) = some z from e6)
    exact e7
  have f0 : rB K n p 120 [rI x1, rI x2, rI x3, rI x4] σ := by
    obtain ⟨w, e6, e7⟩ := m4 (1924, [1, 2, 3, 4]) (List.mem_of_getElem? (i := 0) rfl)
    obtain rfl : [rI x1, rI x2, rI x3, rI x4] = w := Option.some.inj (show some [rI x1, rI x2, rI x3, rI x4] = some w from e6)
    exact (rF_b (r := 1924) (by decide) rfl).mp e7
  have f0 := ro_120.mp f0
  clear m1 m2 m3 m4
  have q0 : rB K n p 142 [rR x0, rI x1, rI x2, rI x3, rI x4, rL x5] σ := ro_142.mpr ⟨_, hM, by
    have e : x5 = 0 := Int64.toInt_inj.mp (by rw [show (0 : Int64).toInt = 0 from rfl]; omega)
    intro u h1 h2
    rw [e, f0]
    exact ⟨Or.inr, fun h => h.resolve_left rBt_0⟩⟩
  exact ⟨p, fun _ => rfl, ⟨(fun q h => by cases h), fun q h => (by cases h), (fun f h => by cases h), (aAllc ⟨_, rfl, (rF_b (r := 2278) (by decide) rfl).mpr q0⟩ (fun f h => by cases h))⟩, [], List.mem_cons_self, fun f h => (by cases h)⟩
theorem rw_rvWo {K : Nat → Nat} {n : Nat} {JX : (Nat → jcell) → Prop} : aGho (rF K n) fa_T K n JX ag_rvWo := by
  refine aGho_of ⟨rfl, rfl⟩ ?_
  intro p σ ρ hH hX hA hM0
  have hG := aAG_of hA.1 (fun i e v he hv => (hA.2 i e v he hv).1)
  clear hA
  obtain ⟨v0, v1, v2, v3, v4, v5, v6, v7, rfl, g0, g1, g2, g3, g4, g5, g6, g7⟩ := rA_8 hG
  clear hG
  obtain ⟨x0, rfl, b0, d0⟩ := rG_ref (by decide) g0
  obtain ⟨x1, rfl, b1, d1⟩ := aG_int g1
  dsimp only at b1 d1
  obtain ⟨x2, rfl, b2, d2⟩ := aG_int g2
  dsimp only at b2 d2
  obtain ⟨x3, rfl, b3, d3⟩ := aG_int g3
  dsimp only at b3 d3
  obtain ⟨x4, rfl, b4, d4⟩ := aG_int g4
  dsimp only at b4 d4
  obtain ⟨x5, rfl⟩ := aG_lng g5
  obtain ⟨x6, rfl⟩ := aG_lng g6
  obtain ⟨x7, rfl⟩ := aG_lng g7
  obtain ⟨m1, m2, m3, m4⟩ := hM0
  obtain ⟨M, hM⟩ := rMe_ex hH b0 d0
  have f0 : rB K n p 142 [rR x0, rI x1, rI x2, rI x3, rI x4, rL x5] σ := by
    obtain ⟨w, e6, e7⟩ := m4 (2278, [0, 1, 2, 3, 4, 5]) (List.mem_of_getElem? (i := 0) rfl)
    obtain rfl : [rR x0, rI x1, rI x2, rI x3, rI x4, rL x5] = w := Option.some.inj (show some [rR x0, rI x1, rI x2, rI x3, rI x4, rL x5] = some w from e6)
    exact (rF_b (r := 2278) (by decide) rfl).mp e7
  obtain ⟨M9, h9, f0⟩ := ro_142.mp f0
  obtain rfl := rMg_u hM h9
  clear h9
  have f1 : rB K n p 141 [rI x4, rL x6] σ := by
    obtain ⟨w, e6, e7⟩ := m4 (2258, [4, 6]) (List.mem_of_getElem? (i := 1) rfl)
    obtain rfl : [rI x4, rL x6] = w := Option.some.inj (show some [rI x4, rL x6] = some w from e6)
    exact (rF_b (r := 2258) (by decide) rfl).mp e7
  have f1 := ro_141.mp f1
  have f2 : rB K n p 100 [rL x5, rL x6, rL x7] σ := by
    obtain ⟨w, e6, e7⟩ := m4 (1603, [5, 6, 7]) (List.mem_of_getElem? (i := 2) rfl)
    obtain rfl : [rL x5, rL x6, rL x7] = w := Option.some.inj (show some [rL x5, rL x6, rL x7] = some w from e6)
    exact (rF_b (r := 1603) (by decide) rfl).mp e7
  have f2 : x7 = x5 ||| x6 := Sum.inl.inj (Sum.inr.inj (ro_100.mp f2))
  clear m1 m2 m3 m4
  have q0 : rB K n p 143 [rR x0, rI x1, rI x2, rI x3, rI x4, rL x7] σ := ro_143.mpr ⟨_, hM, by
    intro u h1 h2
    rw [f0 u h1 h2, f2, rBt_or, f1 u h1 h2, rWf_i (t := x4.toInt)]
    constructor
    · rintro (h | ⟨-, h | h⟩)
      · exact Or.inl (Or.inl h)
      · exact Or.inl (Or.inr h)
      · exact Or.inr h
    · rintro ((h | h) | h)
      · exact Or.inl h
      · exact Or.inr ⟨b4, Or.inl h⟩
      · exact Or.inr ⟨b4, Or.inr h⟩⟩
  exact ⟨p, fun _ => rfl, ⟨(fun q h => by cases h), fun q h => (by cases h), (fun f h => by cases h), (aAllc ⟨_, rfl, (rF_b (r := 2294) (by decide) rfl).mpr q0⟩ (fun f h => by cases h))⟩, [], List.mem_cons_self, fun f h => (by cases h)⟩
theorem rw_rvWz {K : Nat → Nat} {n : Nat} {JX : (Nat → jcell) → Prop} : aGho (rF K n) fa_T K n JX ag_rvWz := by
  refine aGho_of ⟨rfl, rfl⟩ ?_
  intro p σ ρ hH hX hA hM0
  have hG := aAG_of hA.1 (fun i e v he hv => (hA.2 i e v he hv).1)
  clear hA
  obtain ⟨v0, v1, v2, v3, v4, v5, v6, v7, rfl, g0, g1, g2, g3, g4, g5, g6, g7⟩ := rA_8 hG
  clear hG
  obtain ⟨x0, rfl, b0, d0⟩ := rG_ref (by decide) g0
  obtain ⟨x1, rfl, b1, d1⟩ := aG_int g1
  dsimp only at b1 d1
  obtain ⟨x2, rfl, b2, d2⟩ := aG_int g2
  dsimp only at b2 d2
  obtain ⟨x3, rfl, b3, d3⟩ := aG_int g3
  dsimp only at b3 d3
  obtain ⟨x4, rfl, b4, d4⟩ := aG_int g4
  dsimp only at b4 d4
  obtain ⟨x5, rfl⟩ := aG_lng g5
  obtain ⟨x6, rfl, b6, d6⟩ := aG_int g6
  dsimp only at b6 d6
  obtain ⟨x7, rfl, b7, d7⟩ := rG_ref (by decide) g7
  obtain ⟨m1, m2, m3, m4⟩ := hM0
  obtain ⟨M, hM⟩ := rMe_ex hH b0 d0
  obtain ⟨a0, c0, fs0, w0, e1, s0, t0, e4⟩ := m1 (0, 2, 7) (List.mem_of_getElem? (i := 0) rfl)
  obtain rfl : x0 = a0 := Sum.inl.inj (Option.some.inj (Sum.inr.inj (Sum.inr.inj (Option.some.inj (show some (rR x0) = some _ from e1)))))
  obtain rfl : rR x7 = w0 := Option.some.inj (show some (rR x7) = some w0 from e4)
  clear e1 e4
  obtain ⟨a, mc0, ty0, gc0, ic0, e1, sc0, jc0, e4, e5⟩ := m2 (7, ([(4, 1)], 0), 6) (List.mem_of_getElem? (i := 0) rfl)
  obtain rfl : x7 = a := Sum.inl.inj (Option.some.inj (Sum.inr.inj (Sum.inr.inj (Option.some.inj (show some (rR x7) = some _ from e1)))))
  obtain ⟨gc0, rfl⟩ : ∃ g, gc0 = .inl g := by
    rcases gc0 with g | g
    · exact ⟨g, rfl⟩
    · exact absurd (show some (rI x6) = some (.inr (.inl (g ic0))) from e5) (fun h => by cases h)
  have sc0 : σ x7 = .inl (ty0, mc0, .inl gc0) := sc0
  have ec0 : x6 = gc0 ic0 := Sum.inl.inj (Option.some.inj (show some (rI x6) = some _ from e5))
  have kc0 : (ic0 : Int) = (1 * x4.toInt + 0) + 0 := by
    obtain ⟨z, e6, e7⟩ := e4
    obtain rfl : (1 * x4.toInt + 0) = z := Option.some.inj (show some (1 * x4.toInt + 0) = some z from e6)
    exact e7
  clear e1 e4 e5
  have y0 : M x4.toInt = x6.toInt := rMg_c hM s0 t0 sc0 (by omega) (by omega) (by omega) ec0
  have f0 : rB K n p 143 [rR x0, rI x1, rI x2, rI x3, rI x4, rL x5] σ := by
    obtain ⟨w, e6, e7⟩ := m4 (2294, [0, 1, 2, 3, 4, 5]) (List.mem_of_getElem? (i := 0) rfl)
    obtain rfl : [rR x0, rI x1, rI x2, rI x3, rI x4, rL x5] = w := Option.some.inj (show some [rR x0, rI x1, rI x2, rI x3, rI x4, rL x5] = some w from e6)
    exact (rF_b (r := 2294) (by decide) rfl).mp e7
  obtain ⟨M9, h9, f0⟩ := ro_143.mp f0
  obtain rfl := rMg_u hM h9
  clear h9
  clear m1 m2 m3 m4
  have q0 : rB K n p 146 [rR x0, rI x1, rI x2, rI x3, rI x4, rL x5] σ := ro_146.mpr ⟨_, hM, by
    intro u h1 h2
    rw [f0 u h1 h2]
    exact ⟨fun h => h.imp id And.right, fun h => h.imp id (fun h => ⟨by omega, h⟩)⟩⟩
  exact ⟨p, fun _ => rfl, ⟨(fun q h => by cases h), fun q h => (by cases h), (fun f h => by cases h), (aAllc ⟨_, rfl, (rF_b (r := 2342) (by decide) rfl).mpr q0⟩ (fun f h => by cases h))⟩, [], List.mem_cons_self, fun f h => (by cases h)⟩
theorem rw_rvWn {K : Nat → Nat} {n : Nat} {JX : (Nat → jcell) → Prop} : aGho (rF K n) fa_T K n JX ag_rvWn := by
  refine aGho_of ⟨rfl, rfl⟩ ?_
  intro p σ ρ hH hX hA hM0
  have hG := aAG_of hA.1 (fun i e v he hv => (hA.2 i e v he hv).1)
  clear hA
  obtain ⟨v0, v1, v2, v3, v4, v5, v6, rfl, g0, g1, g2, g3, g4, g5, g6⟩ := rA_7 hG
  clear hG
  obtain ⟨x0, rfl, b0, d0⟩ := rG_ref (by decide) g0
  obtain ⟨x1, rfl, b1, d1⟩ := aG_int g1
  dsimp only at b1 d1
  obtain ⟨x2, rfl, b2, d2⟩ := aG_int g2
  dsimp only at b2 d2
  obtain ⟨x3, rfl, b3, d3⟩ := aG_int g3
  dsimp only at b3 d3
  obtain ⟨x4, rfl, b4, d4⟩ := aG_int g4
  dsimp only at b4 d4
  obtain ⟨x5, rfl⟩ := aG_lng g5
  obtain ⟨x6, rfl, b6, d6⟩ := aG_int g6
  dsimp only at b6 d6
  obtain ⟨m1, m2, m3, m4⟩ := hM0
  obtain ⟨M, hM⟩ := rMe_ex hH b0 d0
  have f0 : rB K n p 146 [rR x0, rI x1, rI x2, rI x3, rI x4, rL x5] σ := by
    obtain ⟨w, e6, e7⟩ := m4 (2342, [0, 1, 2, 3, 4, 5]) (List.mem_of_getElem? (i := 0) rfl)
    obtain rfl : [rR x0, rI x1, rI x2, rI x3, rI x4, rL x5] = w := Option.some.inj (show some [rR x0, rI x1, rI x2, rI x3, rI x4, rL x5] = some w from e6)
    exact (rF_b (r := 2342) (by decide) rfl).mp e7
  obtain ⟨M9, h9, f0⟩ := ro_146.mp f0
  obtain rfl := rMg_u hM h9
  clear h9
  have f1 : rB K n p 120 [rI x4, rI x2, rI x3, rI x6] σ := by
    obtain ⟨w, e6, e7⟩ := m4 (1924, [4, 2, 3, 6]) (List.mem_of_getElem? (i := 1) rfl)
    obtain rfl : [rI x4, rI x2, rI x3, rI x6] = w := Option.some.inj (show some [rI x4, rI x2, rI x3, rI x6] = some w from e6)
    exact (rF_b (r := 1924) (by decide) rfl).mp e7
  have f1 := ro_120.mp f1
  clear m1 m2 m3 m4
  have q0 : rB K n p 142 [rR x0, rI x1, rI x2, rI x3, rI x6, rL x5] σ := ro_142.mpr ⟨_, hM, by
    intro u h1 h2
    rw [f1]
    exact f0 u h1 h2⟩
  exact ⟨p, fun _ => rfl, ⟨(fun q h => by cases h), fun q h => (by cases h), (fun f h => by cases h), (aAllc ⟨_, rfl, (rF_b (r := 2278) (by decide) rfl).mpr q0⟩ (fun f h => by cases h))⟩, [], List.mem_cons_self, fun f h => (by cases h)⟩
theorem rw_rvWe {K : Nat → Nat} {n : Nat} {JX : (Nat → jcell) → Prop} : aGho (rF K n) fa_T K n JX ag_rvWe := by
  refine aGho_of ⟨rfl, rfl⟩ ?_
  intro p σ ρ hH hX hA hM0
  have hG := aAG_of hA.1 (fun i e v he hv => (hA.2 i e v he hv).1)
  clear hA
  obtain ⟨v0, v1, v2, v3, v4, v5, v6, v7, v8, rfl, g0, g1, g2, g3, g4, g5, g6, g7, g8⟩ := rA_9 hG
  clear hG
  obtain ⟨x0, rfl, b0, d0⟩ := rG_ref (by decide) g0
  obtain ⟨x1, rfl, b1, d1⟩ := aG_int g1
  dsimp only at b1 d1
  obtain ⟨x2, rfl, b2, d2⟩ := aG_int g2
  dsimp only at b2 d2
  obtain ⟨x3, rfl, b3, d3⟩ := aG_int g3
  dsimp only at b3 d3
  obtain ⟨x4, rfl, b4, d4⟩ := aG_int g4
  dsimp only at b4 d4
  obtain ⟨x5, rfl⟩ := aG_lng g5
  obtain ⟨x6, rfl, b6, d6⟩ := aG_int g6
  dsimp only at b6 d6
  obtain ⟨x7, rfl, b7, d7⟩ := aG_int g7
  dsimp only at b7 d7
  obtain ⟨x8, rfl, b8, d8⟩ := rG_ref (by decide) g8
  obtain ⟨m1, m2, m3, m4⟩ := hM0
  obtain ⟨M, hM⟩ := rMe_ex hH b0 d0
  obtain ⟨a0, c0, fs0, w0, e1, s0, t0, e4⟩ := m1 (0, 2, 8) (List.mem_of_getElem? (i := 0) rfl)
  obtain rfl : x0 = a0 := Sum.inl.inj (Option.some.inj (Sum.inr.inj (Sum.inr.inj (Option.some.inj (show some (rR x0) = some _ from e1)))))
  obtain rfl : rR x8 = w0 := Option.some.inj (show some (rR x8) = some w0 from e4)
  clear e1 e4
  obtain ⟨a, mc0, ty0, gc0, ic0, e1, sc0, jc0, e4, e5⟩ := m2 (8, ([(4, 1)], 0), 6) (List.mem_of_getElem? (i := 0) rfl)
  obtain rfl : x8 = a := Sum.inl.inj (Option.some.inj (Sum.inr.inj (Sum.inr.inj (Option.some.inj (show some (rR x8) = some _ from e1)))))
  obtain ⟨gc0, rfl⟩ : ∃ g, gc0 = .inl g := by
    rcases gc0 with g | g
    · exact ⟨g, rfl⟩
    · exact absurd (show some (rI x6) = some (.inr (.inl (g ic0))) from e5) (fun h => by cases h)
  have sc0 : σ x8 = .inl (ty0, mc0, .inl gc0) := sc0
  have ec0 : x6 = gc0 ic0 := Sum.inl.inj (Option.some.inj (show some (rI x6) = some _ from e5))
  have kc0 : (ic0 : Int) = (1 * x4.toInt + 0) + 0 := by
    obtain ⟨z, e6, e7⟩ := e4
    obtain rfl : (1 * x4.toInt + 0) = z := Option.some.inj (show some (1 * x4.toInt + 0) = some z from e6)
    exact e7
  clear e1 e4 e5
  have y0 : M x4.toInt = x6.toInt := rMg_c hM s0 t0 sc0 (by omega) (by omega) (by omega) ec0
  have f0 : rB K n p 143 [rR x0, rI x1, rI x2, rI x3, rI x4, rL x5] σ := by
    obtain ⟨w, e6, e7⟩ := m4 (2294, [0, 1, 2, 3, 4, 5]) (List.mem_of_getElem? (i := 0) rfl)
    obtain rfl : [rR x0, rI x1, rI x2, rI x3, rI x4, rL x5] = w := Option.some.inj (show some [rR x0, rI x1, rI x2, rI x3, rI x4, rL x5] = some w from e6)
    exact (rF_b (r := 2294) (by decide) rfl).mp e7
  obtain ⟨M9, h9, f0⟩ := ro_143.mp f0
  obtain rfl := rMg_u hM h9
  clear h9
  clear m1 m2 m3 m4
  have q0 : rB K n p 142 [rR x0, rI x1, rI x2, rI x3, rI x7, rL x5] σ := ro_142.mpr ⟨_, hM, by
    intro u h1 h2
    rw [f0 u h1 h2]
    exact ⟨fun h => h.elim Or.inl (fun h => absurd h.1 (by omega)), fun h => h.elim Or.inl (fun h => absurd (rWf_i.mp h).1 (by omega))⟩⟩
  exact ⟨p, fun _ => rfl, ⟨(fun q h => by cases h), fun q h => (by cases h), (fun f h => by cases h), (aAllc ⟨_, rfl, (rF_b (r := 2278) (by decide) rfl).mpr q0⟩ (fun f h => by cases h))⟩, [], List.mem_cons_self, fun f h => (by cases h)⟩
theorem rw_rvWE {K : Nat → Nat} {n : Nat} {JX : (Nat → jcell) → Prop} : aGho (rF K n) fa_T K n JX ag_rvWE := by
  refine aGho_of ⟨rfl, rfl⟩ ?_
  intro p σ ρ hH hX hA hM0
  have hG := aAG_of hA.1 (fun i e v he hv => (hA.2 i e v he hv).1)
  clear hA
  obtain ⟨v0, v1, v2, v3, v4, v5, rfl, g0, g1, g2, g3, g4, g5⟩ := rA_6 hG
  clear hG
  obtain ⟨x0, rfl, b0, d0⟩ := rG_ref (by decide) g0
  obtain ⟨x1, rfl, b1, d1⟩ := aG_int g1
  dsimp only at b1 d1
  obtain ⟨x2, rfl, b2, d2⟩ := aG_int g2
  dsimp only at b2 d2
  obtain ⟨x3, rfl, b3, d3⟩ := aG_int g3
  dsimp only at b3 d3
  obtain ⟨x4, rfl, b4, d4⟩ := aG_int g4
  dsimp only at b4 d4
  obtain ⟨x5, rfl⟩ := aG_lng g5
  obtain ⟨m1, m2, m3, m4⟩ := hM0
  obtain ⟨M, hM⟩ := rMe_ex hH b0 d0
  have f0 : rB K n p 142 [rR x0, rI x1, rI x2, rI x3, rI x4, rL x5] σ := by
    obtain ⟨w, e6, e7⟩ := m4 (2278, [0, 1, 2, 3, 4, 5]) (List.mem_of_getElem? (i := 0) rfl)
    obtain rfl : [rR x0, rI x1, rI x2, rI x3, rI x4, rL x5] = w := Option.some.inj (show some [rR x0, rI x1, rI x2, rI x3, rI x4, rL x5] = some w from e6)
    exact (rF_b (r := 2278) (by decide) rfl).mp e7
  obtain ⟨M9, h9, f0⟩ := ro_142.mp f0
  obtain rfl := rMg_u hM h9
  clear h9
  clear m1 m2 m3 m4
  have q0 : rB K n p 144 [rR x0, rI x1, rI x2, rI x3, rL x5] σ := ro_144.mpr ⟨_, hM, by
    intro u h1 h2
    rw [f0 u h1 h2]
    exact ⟨fun h => h.elim id (fun h => absurd (rWf_i.mp h).1 (by omega)), Or.inl⟩⟩
  exact ⟨p, fun _ => rfl, ⟨(fun q h => by cases h), fun q h => (by cases h), (fun f h => by cases h), (aAllc ⟨_, rfl, (rF_b (r := 2309) (by decide) rfl).mpr q0⟩ (fun f h => by cases h))⟩, [], List.mem_cons_self, fun f h => (by cases h)⟩
theorem rw_rvKF {K : Nat → Nat} {n : Nat} {JX : (Nat → jcell) → Prop} : aGho (rF K n) fa_T K n JX ag_rvKF := by
  refine aGho_of ⟨rfl, rfl⟩ ?_
  intro p σ ρ hH hX hA hM0
  have hG := aAG_of hA.1 (fun i e v he hv => (hA.2 i e v he hv).1)
  clear hA
  obtain ⟨v0, v1, v2, v3, v4, rfl, g0, g1, g2, g3, g4⟩ := rA_5 hG
  clear hG
  obtain ⟨x0, rfl, b0, d0⟩ := rG_ref (by decide) g0
  obtain ⟨x1, rfl, b1, d1⟩ := aG_int g1
  dsimp only at b1 d1
  obtain ⟨x2, rfl, b2, d2⟩ := aG_int g2
  dsimp only at b2 d2
  obtain ⟨x3, rfl, b3, d3⟩ := aG_int g3
  dsimp only at b3 d3
  obtain ⟨x4, rfl, b4, d4⟩ := rG_ref (by decide) g4
  obtain ⟨m1, m2, m3, m4⟩ := hM0
  obtain ⟨M, hM⟩ := rMe_ex hH b0 d0
  obtain ⟨a0, c0, fs0, w0, e1, s0, t0, e4⟩ := m1 (0, 2, 4) (List.mem_of_getElem? (i := 0) rfl)
  obtain rfl : x0 = a0 := Sum.inl.inj (Option.some.inj (Sum.inr.inj (Sum.inr.inj (Option.some.inj (show some (rR x0) = some _ from e1)))))
  obtain rfl : rR x4 = w0 := Option.some.inj (show some (rR x4) = some w0 from e4)
  clear e1 e4
  obtain ⟨a, mc0, ty0, gc0, ic0, e1, sc0, jc0, e4, e5⟩ := m2 (4, ([(1, 1)], 0), 2) (List.mem_of_getElem? (i := 0) rfl)
  obtain rfl : x4 = a := Sum.inl.inj (Option.some.inj (Sum.inr.inj (Sum.inr.inj (Option.some.inj (show some (rR x4) = some _ from e1)))))
  obtain ⟨gc0, rfl⟩ : ∃ g, gc0 = .inl g := by
    rcases gc0 with g | g
    · exact ⟨g, rfl⟩
    · exact absurd (show some (rI x2) = some (.inr (.inl (g ic0))) from e5) (fun h => by cases h)
  have sc0 : σ x4 = .inl (ty0, mc0, .inl gc0) := sc0
  have ec0 : x2 = gc0 ic0 := Sum.inl.inj (Option.some.inj (show some (rI x2) = some _ from e5))
  have kc0 : (ic0 : Int) = (1 * x1.toInt + 0) + 0 := by
    obtain ⟨z, e6, e7⟩ := e4
    obtain rfl : (1 * x1.toInt + 0) = z := Option.some.inj (show some (1 * x1.toInt + 0) = some z from e6)
    exact e7
  clear e1 e4 e5
  have y0 : M x1.toInt = x2.toInt := rMg_c hM s0 t0 sc0 (by omega) (by omega) (by omega) ec0
  have f0 : rB K n p 147 [rI x2, rI x3] σ := by
    obtain ⟨w, e6, e7⟩ := m4 (2354, [2, 3]) (List.mem_of_getElem? (i := 0) rfl)
    obtain rfl : [rI x2, rI x3] = w := Option.some.inj (show some [rI x2, rI x3] = some w from e6)
    exact (rF_b (r := 2354) (by decide) rfl).mp e7
  have f0 := ro_147.mp f0
  clear m1 m2 m3 m4
  have q0 : rB K n p 148 [rR x0, rI x1, rI x3] σ := ro_148.mpr ⟨_, hM, by
    rw [y0]
    exact f0⟩
  exact ⟨p, fun _ => rfl, ⟨(fun q h => by cases h), fun q h => (by cases h), (fun f h => by cases h), (aAllc ⟨_, rfl, (rF_b (r := 2371) (by decide) rfl).mpr q0⟩ (fun f h => by cases h))⟩, [], List.mem_cons_self, fun f h => (by cases h)⟩
theorem rw_rvR0 {K : Nat → Nat} {n : Nat} {JX : (Nat → jcell) → Prop} : aGho (rF K n) fa_T K n JX ag_rvR0 := by
  refine aGho_of ⟨rfl, rfl⟩ ?_
  intro p σ ρ hH hX hA hM0
  have hG := aAG_of hA.1 (fun i e v he hv => (hA.2 i e v he hv).1)
  clear hA
  obtain ⟨v0, v1, v2, v3, v4, rfl, g0, g1, g2, g3, g4⟩ := rA_5 hG
  clear hG
  obtain ⟨x0, rfl, b0, d0⟩ := rG_ref (by decide) g0
  obtain ⟨x1, rfl, b1, d1⟩ := aG_int g1
  dsimp only at b1 d1
  obtain ⟨x2, rfl, b2, d2⟩ := aG_int g2
  dsimp only at b2 d2
  obtain ⟨x3, rfl, b3, d3⟩ := aG_int g3
  dsimp only at b3 d3
  obtain ⟨x4, rfl⟩ := aG_lng g4
  obtain ⟨m1, m2, m3, m4⟩ := hM0
  obtain ⟨M, hM⟩ := rMe_ex hH b0 d0
  have l0 : 0 ≤ (1 * x4.toInt + 0) + 0 := by
    obtain ⟨z, e6, e7⟩ := m3 ([(4, 1)], 0) (List.mem_of_getElem? (i := 0) rfl)
    obtain rfl : (1 * x4.toInt + 0) = z := Option.some.inj (show some (1 * x4.toInt + 0) = some z from e6)
    exact e7
  have l1 : 0 ≤ (-1 * x4.toInt + 0) + 0 := by
    obtain ⟨z, e6, e7⟩ := m3 ([(4, -1)], 0) (List.mem_of_getElem? (i := 1) rfl)
    obtain rfl : (-1 * x4.toInt + 0) = z := Option.some.inj (show some (-1 * x4.toInt + 0) = some z from e6)
    exact e7
  have f0 : rB K n p 148 [rR x0, rI x1, rI x2] σ := by
    obtain ⟨w, e6, e7⟩ := m4 (2371, [0, 1, 2]) (List.mem_of_getElem? (i := 0) rfl)
    obtain rfl : [rR x0, rI x1, rI x2] = w := Option.some.inj (show some [rR x0, rI x1, rI x2] = some w from e6)
    exact (rF_b (r := 2371) (by decide) rfl).mp e7
  obtain ⟨M9, h9, f0⟩ := ro_148.mp f0
  obtain rfl := rMg_u hM h9
  clear h9
  clear m1 m2 m3 m4
  have q0 : rB K n p 149 [rR x0, rI x1, rI x2, rI x3, rL x4] σ := ro_149.mpr ⟨_, hM, by
    have e : x4 = 0 := Int64.toInt_inj.mp (by rw [show (0 : Int64).toInt = 0 from rfl]; omega)
    refine ⟨f0, fun u h1 h2 => ⟨fun h => ?_, ?_⟩⟩
    · rw [e] at h; exact absurd h rBt_0
    · rintro ⟨f, r, h3, h4, -⟩; omega⟩
  exact ⟨p, fun _ => rfl, ⟨(fun q h => by cases h), fun q h => (by cases h), (fun f h => by cases h), (aAllc ⟨_, rfl, (rF_b (r := 2389) (by decide) rfl).mpr q0⟩ (fun f h => by cases h))⟩, [], List.mem_cons_self, fun f h => (by cases h)⟩
theorem rw_rvRi {K : Nat → Nat} {n : Nat} {JX : (Nat → jcell) → Prop} : aGho (rF K n) fa_T K n JX ag_rvRi := by
  refine aGho_of ⟨rfl, rfl⟩ ?_
  intro p σ ρ hH hX hA hM0
  have hG := aAG_of hA.1 (fun i e v he hv => (hA.2 i e v he hv).1)
  clear hA
  obtain ⟨v0, v1, v2, v3, v4, v5, rfl, g0, g1, g2, g3, g4, g5⟩ := rA_6 hG
  clear hG
  obtain ⟨x0, rfl, b0, d0⟩ := rG_ref (by decide) g0
  obtain ⟨x1, rfl, b1, d1⟩ := aG_int g1
  dsimp only at b1 d1
  obtain ⟨x2, rfl, b2, d2⟩ := aG_int g2
  dsimp only at b2 d2
  obtain ⟨x3, rfl, b3, d3⟩ := aG_int g3
  dsimp only at b3 d3
  obtain ⟨x4, rfl⟩ := aG_lng g4
  obtain ⟨x5, rfl, b5, d5⟩ := aG_int g5
  dsimp only at b5 d5
  obtain ⟨m1, m2, m3, m4⟩ := hM0
  obtain ⟨M, hM⟩ := rMe_ex hH b0 d0
  have f0 : rB K n p 149 [rR x0, rI x1, rI x2, rI x3, rL x4] σ := by
    obtain ⟨w, e6, e7⟩ := m4 (2389, [0, 1, 2, 3, 4]) (List.mem_of_getElem? (i := 0) rfl)
    obtain rfl : [rR x0, rI x1, rI x2, rI x3, rL x4] = w := Option.some.inj (show some [rR x0, rI x1, rI x2, rI x3, rL x4] = some w from e6)
    exact (rF_b (r := 2389) (by decide) rfl).mp e7
  obtain ⟨M9, h9, f0⟩ := ro_149.mp f0
  obtain rfl := rMg_u hM h9
  clear h9
  clear m1 m2 m3 m4
  have q0 : rB K n p 150 [rR x0, rI x1, rI x2, rI x3, rI x5, rL x4] σ := ro_150.mpr ⟨_, hM, by
    refine ⟨f0.1, fun u h1 h2 => ?_⟩
    rw [f0.2 u h1 h2]
    constructor
    · rintro ⟨f, r, h3, h4, h5, h6, h7⟩
      exact ⟨f, r, h3, by omega, h5, h6, h7⟩
    · rintro ⟨f, r, h3, h4, h5, h6, h7⟩
      exact ⟨f, r, h3, by omega, h5, h6, h7⟩⟩
  exact ⟨p, fun _ => rfl, ⟨(fun q h => by cases h), fun q h => (by cases h), (fun f h => by cases h), (aAllc ⟨_, rfl, (rF_b (r := 2406) (by decide) rfl).mpr q0⟩ (fun f h => by cases h))⟩, [], List.mem_cons_self, fun f h => (by cases h)⟩
theorem rw_rvRS25 {K : Nat → Nat} {n : Nat} {JX : (Nat → jcell) → Prop} : aGho (rF K n) fa_T K n JX ag_rvRS25 := by
  refine aGho_of ⟨rfl, rfl⟩ ?_
  intro p σ ρ hH hX hA hM0
  have hG := aAG_of hA.1 (fun i e v he hv => (hA.2 i e v he hv).1)
  clear hA
  obtain ⟨v0, v1, v2, v3, v4, v5, v6, v7, v8, v9, rfl, g0, g1, g2, g3, g4, g5, g6, g7, g8, g9⟩ := rA_10 hG
  clear hG
  obtain ⟨x0, rfl, b0, d0⟩ := rG_ref (by decide) g0
  obtain ⟨x1, rfl, b1, d1⟩ := aG_int g1
  dsimp only at b1 d1
  obtain ⟨x2, rfl, b2, d2⟩ := aG_int g2
  dsimp only at b2 d2
  obtain ⟨x3, rfl, b3, d3⟩ := aG_int g3
  dsimp only at b3 d3
  obtain ⟨x4, rfl, b4, d4⟩ := aG_int g4
  dsimp only at b4 d4
  obtain ⟨x5, rfl, b5, d5⟩ := aG_int g5
  dsimp only at b5 d5
  obtain ⟨x6, rfl, b6, d6⟩ := aG_int g6
  dsimp only at b6 d6
  obtain ⟨x7, rfl⟩ := aG_lng g7
  obtain ⟨x8, rfl⟩ := aG_lng g8
  obtain ⟨x9, rfl⟩ := aG_lng g9
  obtain ⟨m1, m2, m3, m4⟩ := hM0
  obtain ⟨M, hM⟩ := rMe_ex hH b0 d0
  have f0 : rB K n p 150 [rR x0, rI x1, rI x2, rI x3, rI x4, rL x7] σ := by
    obtain ⟨w, e6, e7⟩ := m4 (2406, [0, 1, 2, 3, 4, 7]) (List.mem_of_getElem? (i := 0) rfl)
    obtain rfl : [rR x0, rI x1, rI x2, rI x3, rI x4, rL x7] = w := Option.some.inj (show some [rR x0, rI x1, rI x2, rI x3, rI x4, rL x7] = some w from e6)
    exact (rF_b (r := 2406) (by decide) rfl).mp e7
  obtain ⟨M9, h9, f0⟩ := ro_150.mp f0
  obtain rfl := rMg_u hM h9
  clear h9
  have f1 : rB K n p 155 [rI x3, rI x4, rI x5] σ := by
    obtain ⟨w, e6, e7⟩ := m4 (2483, [3, 4, 5]) (List.mem_of_getElem? (i := 1) rfl)
    obtain rfl : [rI x3, rI x4, rI x5] = w := Option.some.inj (show some [rI x3, rI x4, rI x5] = some w from e6)
    exact (rF_b (r := 2483) (by decide) rfl).mp e7
  have f1 := ro_155.mp f1
  have f2 : rB K n p 120 [rI x1, rI x3, rI x4, rI x6] σ := by
    obtain ⟨w, e6, e7⟩ := m4 (1924, [1, 3, 4, 6]) (List.mem_of_getElem? (i := 2) rfl)
    obtain rfl : [rI x1, rI x3, rI x4, rI x6] = w := Option.some.inj (show some [rI x1, rI x3, rI x4, rI x6] = some w from e6)
    exact (rF_b (r := 1924) (by decide) rfl).mp e7
  have f2 := ro_120.mp f2
  have f3 : rB K n p 141 [rI x6, rL x8] σ := by
    obtain ⟨w, e6, e7⟩ := m4 (2258, [6, 8]) (List.mem_of_getElem? (i := 3) rfl)
    obtain rfl : [rI x6, rL x8] = w := Option.some.inj (show some [rI x6, rL x8] = some w from e6)
    exact (rF_b (r := 2258) (by decide) rfl).mp e7
  have f3 := ro_141.mp f3
  have f4 : rB K n p 100 [rL x7, rL x8, rL x9] σ := by
    obtain ⟨w, e6, e7⟩ := m4 (1603, [7, 8, 9]) (List.mem_of_getElem? (i := 4) rfl)
    obtain rfl : [rL x7, rL x8, rL x9] = w := Option.some.inj (show some [rL x7, rL x8, rL x9] = some w from e6)
    exact (rF_b (r := 1603) (by decide) rfl).mp e7
  have f4 : x9 = x7 ||| x8 := Sum.inl.inj (Sum.inr.inj (ro_100.mp f4))
  clear m1 m2 m3 m4
  have q0 : rB K n p 151 [rR x0, rI x1, rI x2, rI x3, rI x4, rL x9] σ := ro_151.mpr ⟨_, hM, by
    refine ⟨f0.1, fun u h1 h2 => ?_⟩
    rw [f4, rBt_or, f0.2 u h1 h2]
    exact rRs (by omega) (by omega) (by omega) (by omega) (by
      rw [f3 u h1 h2]
      unfold rR1
      rw [← f1, ← f2]
      constructor
      · intro h; exact Or.inl ⟨by omega, h1, h⟩
      · rintro (h | h)
        · exact h.2.2
        · exact absurd h.1 (by omega))⟩
  exact ⟨p, fun _ => rfl, ⟨(fun q h => by cases h), fun q h => (by cases h), (fun f h => by cases h), (aAllc ⟨_, rfl, (rF_b (r := 2422) (by decide) rfl).mpr q0⟩ (fun f h => by cases h))⟩, [], List.mem_cons_self, fun f h => (by cases h)⟩
theorem rw_rvRS61 {K : Nat → Nat} {n : Nat} {JX : (Nat → jcell) → Prop} : aGho (rF K n) fa_T K n JX ag_rvRS61 := by
  refine aGho_of ⟨rfl, rfl⟩ ?_
  intro p σ ρ hH hX hA hM0
  have hG := aAG_of hA.1 (fun i e v he hv => (hA.2 i e v he hv).1)
  clear hA
  obtain ⟨v0, v1, v2, v3, v4, v5, v6, v7, v8, v9, rfl, g0, g1, g2, g3, g4, g5, g6, g7, g8, g9⟩ := rA_10 hG
  clear hG
  obtain ⟨x0, rfl, b0, d0⟩ := rG_ref (by decide) g0
  obtain ⟨x1, rfl, b1, d1⟩ := aG_int g1
  dsimp only at b1 d1
  obtain ⟨x2, rfl, b2, d2⟩ := aG_int g2
  dsimp only at b2 d2
  obtain ⟨x3, rfl, b3, d3⟩ := aG_int g3
  dsimp only at b3 d3
  obtain ⟨x4, rfl, b4, d4⟩ := aG_int g4
  dsimp only at b4 d4
  obtain ⟨x5, rfl, b5, d5⟩ := aG_int g5
  dsimp only at b5 d5
  obtain ⟨x6, rfl, b6, d6⟩ := aG_int g6
  dsimp only at b6 d6
  obtain ⟨x7, rfl⟩ := aG_lng g7
  obtain ⟨x8, rfl⟩ := aG_lng g8
  obtain ⟨x9, rfl⟩ := aG_lng g9
  obtain ⟨m1, m2, m3, m4⟩ := hM0
  obtain ⟨M, hM⟩ := rMe_ex hH b0 d0
  have f0 : rB K n p 150 [rR x0, rI x1, rI x2, rI x3, rI x4, rL x7] σ := by
    obtain ⟨w, e6, e7⟩ := m4 (2406, [0, 1, 2, 3, 4, 7]) (List.mem_of_getElem? (i := 0) rfl)
    obtain rfl : [rR x0, rI x1, rI x2, rI x3, rI x4, rL x7] = w := Option.some.inj (show some [rR x0, rI x1, rI x2, rI x3, rI x4, rL x7] = some w from e6)
    exact (rF_b (r := 2406) (by decide) rfl).mp e7
  obtain ⟨M9, h9, f0⟩ := ro_150.mp f0
  obtain rfl := rMg_u hM h9
  clear h9
  have f1 : rB K n p 155 [rI x3, rI x4, rI x5] σ := by
    obtain ⟨w, e6, e7⟩ := m4 (2483, [3, 4, 5]) (List.mem_of_getElem? (i := 1) rfl)
    obtain rfl : [rI x3, rI x4, rI x5] = w := Option.some.inj (show some [rI x3, rI x4, rI x5] = some w from e6)
    exact (rF_b (r := 2483) (by decide) rfl).mp e7
  have f1 := ro_155.mp f1
  have f2 : rB K n p 120 [rI x1, rI x3, rI x4, rI x6] σ := by
    obtain ⟨w, e6, e7⟩ := m4 (1924, [1, 3, 4, 6]) (List.mem_of_getElem? (i := 2) rfl)
    obtain rfl : [rI x1, rI x3, rI x4, rI x6] = w := Option.some.inj (show some [rI x1, rI x3, rI x4, rI x6] = some w from e6)
    exact (rF_b (r := 1924) (by decide) rfl).mp e7
  have f2 := ro_120.mp f2
  have f3 : rB K n p 141 [rI x6, rL x8] σ := by
    obtain ⟨w, e6, e7⟩ := m4 (2258, [6, 8]) (List.mem_of_getElem? (i := 3) rfl)
    obtain rfl : [rI x6, rL x8] = w := Option.some.inj (show some [rI x6, rL x8] = some w from e6)
    exact (rF_b (r := 2258) (by decide) rfl).mp e7
  have f3 := ro_141.mp f3
  have f4 : rB K n p 100 [rL x7, rL x8, rL x9] σ := by
    obtain ⟨w, e6, e7⟩ := m4 (1603, [7, 8, 9]) (List.mem_of_getElem? (i := 4) rfl)
    obtain rfl : [rL x7, rL x8, rL x9] = w := Option.some.inj (show some [rL x7, rL x8, rL x9] = some w from e6)
    exact (rF_b (r := 1603) (by decide) rfl).mp e7
  have f4 : x9 = x7 ||| x8 := Sum.inl.inj (Sum.inr.inj (ro_100.mp f4))
  clear m1 m2 m3 m4
  have q0 : rB K n p 151 [rR x0, rI x1, rI x2, rI x3, rI x4, rL x9] σ := ro_151.mpr ⟨_, hM, by
    refine ⟨f0.1, fun u h1 h2 => ?_⟩
    rw [f4, rBt_or, f0.2 u h1 h2]
    exact rRs (by omega) (by omega) (by omega) (by omega) (by
      rw [f3 u h1 h2]
      unfold rR1
      rw [← f1, ← f2]
      constructor
      · intro h; exact Or.inl ⟨by omega, h1, h⟩
      · rintro (h | h)
        · exact h.2.2
        · exact absurd h.1 (by omega))⟩
  exact ⟨p, fun _ => rfl, ⟨(fun q h => by cases h), fun q h => (by cases h), (fun f h => by cases h), (aAllc ⟨_, rfl, (rF_b (r := 2422) (by decide) rfl).mpr q0⟩ (fun f h => by cases h))⟩, [], List.mem_cons_self, fun f h => (by cases h)⟩
theorem rw_rvRS62 {K : Nat → Nat} {n : Nat} {JX : (Nat → jcell) → Prop} : aGho (rF K n) fa_T K n JX ag_rvRS62 := by
  refine aGho_of ⟨rfl, rfl⟩ ?_
  intro p σ ρ hH hX hA hM0
  have hG := aAG_of hA.1 (fun i e v he hv => (hA.2 i e v he hv).1)
  clear hA
  obtain ⟨v0, v1, v2, v3, v4, v5, v6, v7, v8, v9, rfl, g0, g1, g2, g3, g4, g5, g6, g7, g8, g9⟩ := rA_10 hG
  clear hG
  obtain ⟨x0, rfl, b0, d0⟩ := rG_ref (by decide) g0
  obtain ⟨x1, rfl, b1, d1⟩ := aG_int g1
  dsimp only at b1 d1
  obtain ⟨x2, rfl, b2, d2⟩ := aG_int g2
  dsimp only at b2 d2
  obtain ⟨x3, rfl, b3, d3⟩ := aG_int g3
  dsimp only at b3 d3
  obtain ⟨x4, rfl, b4, d4⟩ := aG_int g4
  dsimp only at b4 d4
  obtain ⟨x5, rfl, b5, d5⟩ := aG_int g5
  dsimp only at b5 d5
  obtain ⟨x6, rfl, b6, d6⟩ := aG_int g6
  dsimp only at b6 d6
  obtain ⟨x7, rfl⟩ := aG_lng g7
  obtain ⟨x8, rfl⟩ := aG_lng g8
  obtain ⟨x9, rfl⟩ := aG_lng g9
  obtain ⟨m1, m2, m3, m4⟩ := hM0
  obtain ⟨M, hM⟩ := rMe_ex hH b0 d0
  have f0 : rB K n p 150 [rR x0, rI x1, rI x2, rI x3, rI x4, rL x7] σ := by
    obtain ⟨w, e6, e7⟩ := m4 (2406, [0, 1, 2, 3, 4, 7]) (List.mem_of_getElem? (i := 0) rfl)
    obtain rfl : [rR x0, rI x1, rI x2, rI x3, rI x4, rL x7] = w := Option.some.inj (show some [rR x0, rI x1, rI x2, rI x3, rI x4, rL x7] = some w from e6)
    exact (rF_b (r := 2406) (by decide) rfl).mp e7
  obtain ⟨M9, h9, f0⟩ := ro_150.mp f0
  obtain rfl := rMg_u hM h9
  clear h9
  have f1 : rB K n p 155 [rI x3, rI x4, rI x5] σ := by
    obtain ⟨w, e6, e7⟩ := m4 (2483, [3, 4, 5]) (List.mem_of_getElem? (i := 1) rfl)
    obtain rfl : [rI x3, rI x4, rI x5] = w := Option.some.inj (show some [rI x3, rI x4, rI x5] = some w from e6)
    exact (rF_b (r := 2483) (by decide) rfl).mp e7
  have f1 := ro_155.mp f1
  have f2 : rB K n p 120 [rI x1, rI x3, rI x4, rI x6] σ := by
    obtain ⟨w, e6, e7⟩ := m4 (1924, [1, 3, 4, 6]) (List.mem_of_getElem? (i := 2) rfl)
    obtain rfl : [rI x1, rI x3, rI x4, rI x6] = w := Option.some.inj (show some [rI x1, rI x3, rI x4, rI x6] = some w from e6)
    exact (rF_b (r := 1924) (by decide) rfl).mp e7
  have f2 := ro_120.mp f2
  have f3 : rB K n p 141 [rI x6, rL x8] σ := by
    obtain ⟨w, e6, e7⟩ := m4 (2258, [6, 8]) (List.mem_of_getElem? (i := 3) rfl)
    obtain rfl : [rI x6, rL x8] = w := Option.some.inj (show some [rI x6, rL x8] = some w from e6)
    exact (rF_b (r := 2258) (by decide) rfl).mp e7
  have f3 := ro_141.mp f3
  have f4 : rB K n p 100 [rL x7, rL x8, rL x9] σ := by
    obtain ⟨w, e6, e7⟩ := m4 (1603, [7, 8, 9]) (List.mem_of_getElem? (i := 4) rfl)
    obtain rfl : [rL x7, rL x8, rL x9] = w := Option.some.inj (show some [rL x7, rL x8, rL x9] = some w from e6)
    exact (rF_b (r := 1603) (by decide) rfl).mp e7
  have f4 : x9 = x7 ||| x8 := Sum.inl.inj (Sum.inr.inj (ro_100.mp f4))
  clear m1 m2 m3 m4
  have q0 : rB K n p 151 [rR x0, rI x1, rI x2, rI x3, rI x4, rL x9] σ := ro_151.mpr ⟨_, hM, by
    refine ⟨f0.1, fun u h1 h2 => ?_⟩
    rw [f4, rBt_or, f0.2 u h1 h2]
    exact rRs (by omega) (by omega) (by omega) (by omega) (by
      rw [f3 u h1 h2]
      unfold rR1
      rw [← f1, ← f2]
      constructor
      · intro h; exact Or.inl ⟨by omega, h1, h⟩
      · rintro (h | h)
        · exact h.2.2
        · exact absurd h.1 (by omega))⟩
  exact ⟨p, fun _ => rfl, ⟨(fun q h => by cases h), fun q h => (by cases h), (fun f h => by cases h), (aAllc ⟨_, rfl, (rF_b (r := 2422) (by decide) rfl).mpr q0⟩ (fun f h => by cases h))⟩, [], List.mem_cons_self, fun f h => (by cases h)⟩
theorem rw_rvRW41 {K : Nat → Nat} {n : Nat} {JX : (Nat → jcell) → Prop} : aGho (rF K n) fa_T K n JX ag_rvRW41 := by
  refine aGho_of ⟨rfl, rfl⟩ ?_
  intro p σ ρ hH hX hA hM0
  have hG := aAG_of hA.1 (fun i e v he hv => (hA.2 i e v he hv).1)
  clear hA
  obtain ⟨v0, v1, v2, v3, v4, v5, v6, v7, v8, rfl, g0, g1, g2, g3, g4, g5, g6, g7, g8⟩ := rA_9 hG
  clear hG
  obtain ⟨x0, rfl, b0, d0⟩ := rG_ref (by decide) g0
  obtain ⟨x1, rfl, b1, d1⟩ := aG_int g1
  dsimp only at b1 d1
  obtain ⟨x2, rfl, b2, d2⟩ := aG_int g2
  dsimp only at b2 d2
  obtain ⟨x3, rfl, b3, d3⟩ := aG_int g3
  dsimp only at b3 d3
  obtain ⟨x4, rfl, b4, d4⟩ := aG_int g4
  dsimp only at b4 d4
  obtain ⟨x5, rfl, b5, d5⟩ := aG_int g5
  dsimp only at b5 d5
  obtain ⟨x6, rfl⟩ := aG_lng g6
  obtain ⟨x7, rfl⟩ := aG_lng g7
  obtain ⟨x8, rfl⟩ := aG_lng g8
  obtain ⟨m1, m2, m3, m4⟩ := hM0
  obtain ⟨M, hM⟩ := rMe_ex hH b0 d0
  have f0 : rB K n p 150 [rR x0, rI x1, rI x2, rI x3, rI x4, rL x6] σ := by
    obtain ⟨w, e6, e7⟩ := m4 (2406, [0, 1, 2, 3, 4, 6]) (List.mem_of_getElem? (i := 0) rfl)
    obtain rfl : [rR x0, rI x1, rI x2, rI x3, rI x4, rL x6] = w := Option.some.inj (show some [rR x0, rI x1, rI x2, rI x3, rI x4, rL x6] = some w from e6)
    exact (rF_b (r := 2406) (by decide) rfl).mp e7
  obtain ⟨M9, h9, f0⟩ := ro_150.mp f0
  obtain rfl := rMg_u hM h9
  clear h9
  have f1 : rB K n p 155 [rI x3, rI x4, rI x5] σ := by
    obtain ⟨w, e6, e7⟩ := m4 (2483, [3, 4, 5]) (List.mem_of_getElem? (i := 1) rfl)
    obtain rfl : [rI x3, rI x4, rI x5] = w := Option.some.inj (show some [rI x3, rI x4, rI x5] = some w from e6)
    exact (rF_b (r := 2483) (by decide) rfl).mp e7
  have f1 := ro_155.mp f1
  have f2 : rB K n p 144 [rR x0, rI x1, rI x3, rI x4, rL x7] σ := by
    obtain ⟨w, e6, e7⟩ := m4 (2309, [0, 1, 3, 4, 7]) (List.mem_of_getElem? (i := 2) rfl)
    obtain rfl : [rR x0, rI x1, rI x3, rI x4, rL x7] = w := Option.some.inj (show some [rR x0, rI x1, rI x3, rI x4, rL x7] = some w from e6)
    exact (rF_b (r := 2309) (by decide) rfl).mp e7
  obtain ⟨M9, h9, f2⟩ := ro_144.mp f2
  obtain rfl := rMg_u hM h9
  clear h9
  have f3 : rB K n p 100 [rL x6, rL x7, rL x8] σ := by
    obtain ⟨w, e6, e7⟩ := m4 (1603, [6, 7, 8]) (List.mem_of_getElem? (i := 3) rfl)
    obtain rfl : [rL x6, rL x7, rL x8] = w := Option.some.inj (show some [rL x6, rL x7, rL x8] = some w from e6)
    exact (rF_b (r := 1603) (by decide) rfl).mp e7
  have f3 : x8 = x6 ||| x7 := Sum.inl.inj (Sum.inr.inj (ro_100.mp f3))
  clear m1 m2 m3 m4
  have q0 : rB K n p 151 [rR x0, rI x1, rI x2, rI x3, rI x4, rL x8] σ := ro_151.mpr ⟨_, hM, by
    refine ⟨f0.1, fun u h1 h2 => ?_⟩
    rw [f3, rBt_or, f0.2 u h1 h2]
    exact rRs (by omega) (by omega) (by omega) (by omega) (by
      rw [← f2 u h1 h2]
      unfold rR1
      rw [← f1]
      constructor
      · intro h; exact Or.inr ⟨by omega, h⟩
      · rintro (h | h)
        · exact absurd h.1 (by omega)
        · exact h.2)⟩
  exact ⟨p, fun _ => rfl, ⟨(fun q h => by cases h), fun q h => (by cases h), (fun f h => by cases h), (aAllc ⟨_, rfl, (rF_b (r := 2422) (by decide) rfl).mpr q0⟩ (fun f h => by cases h))⟩, [], List.mem_cons_self, fun f h => (by cases h)⟩
theorem rw_rvRW51 {K : Nat → Nat} {n : Nat} {JX : (Nat → jcell) → Prop} : aGho (rF K n) fa_T K n JX ag_rvRW51 := by
  refine aGho_of ⟨rfl, rfl⟩ ?_
  intro p σ ρ hH hX hA hM0
  have hG := aAG_of hA.1 (fun i e v he hv => (hA.2 i e v he hv).1)
  clear hA
  obtain ⟨v0, v1, v2, v3, v4, v5, v6, v7, v8, rfl, g0, g1, g2, g3, g4, g5, g6, g7, g8⟩ := rA_9 hG
  clear hG
  obtain ⟨x0, rfl, b0, d0⟩ := rG_ref (by decide) g0
  obtain ⟨x1, rfl, b1, d1⟩ := aG_int g1
  dsimp only at b1 d1
  obtain ⟨x2, rfl, b2, d2⟩ := aG_int g2
  dsimp only at b2 d2
  obtain ⟨x3, rfl, b3, d3⟩ := aG_int g3
  dsimp only at b3 d3
  obtain ⟨x4, rfl, b4, d4⟩ := aG_int g4
  dsimp only at b4 d4
  obtain ⟨x5, rfl, b5, d5⟩ := aG_int g5
  dsimp only at b5 d5
  obtain ⟨x6, rfl⟩ := aG_lng g6
  obtain ⟨x7, rfl⟩ := aG_lng g7
  obtain ⟨x8, rfl⟩ := aG_lng g8
  obtain ⟨m1, m2, m3, m4⟩ := hM0
  obtain ⟨M, hM⟩ := rMe_ex hH b0 d0
  have f0 : rB K n p 150 [rR x0, rI x1, rI x2, rI x3, rI x4, rL x6] σ := by
    obtain ⟨w, e6, e7⟩ := m4 (2406, [0, 1, 2, 3, 4, 6]) (List.mem_of_getElem? (i := 0) rfl)
    obtain rfl : [rR x0, rI x1, rI x2, rI x3, rI x4, rL x6] = w := Option.some.inj (show some [rR x0, rI x1, rI x2, rI x3, rI x4, rL x6] = some w from e6)
    exact (rF_b (r := 2406) (by decide) rfl).mp e7
  obtain ⟨M9, h9, f0⟩ := ro_150.mp f0
  obtain rfl := rMg_u hM h9
  clear h9
  have f1 : rB K n p 155 [rI x3, rI x4, rI x5] σ := by
    obtain ⟨w, e6, e7⟩ := m4 (2483, [3, 4, 5]) (List.mem_of_getElem? (i := 1) rfl)
    obtain rfl : [rI x3, rI x4, rI x5] = w := Option.some.inj (show some [rI x3, rI x4, rI x5] = some w from e6)
    exact (rF_b (r := 2483) (by decide) rfl).mp e7
  have f1 := ro_155.mp f1
  have f2 : rB K n p 144 [rR x0, rI x1, rI x3, rI x4, rL x7] σ := by
    obtain ⟨w, e6, e7⟩ := m4 (2309, [0, 1, 3, 4, 7]) (List.mem_of_getElem? (i := 2) rfl)
    obtain rfl : [rR x0, rI x1, rI x3, rI x4, rL x7] = w := Option.some.inj (show some [rR x0, rI x1, rI x3, rI x4, rL x7] = some w from e6)
    exact (rF_b (r := 2309) (by decide) rfl).mp e7
  obtain ⟨M9, h9, f2⟩ := ro_144.mp f2
  obtain rfl := rMg_u hM h9
  clear h9
  have f3 : rB K n p 100 [rL x6, rL x7, rL x8] σ := by
    obtain ⟨w, e6, e7⟩ := m4 (1603, [6, 7, 8]) (List.mem_of_getElem? (i := 3) rfl)
    obtain rfl : [rL x6, rL x7, rL x8] = w := Option.some.inj (show some [rL x6, rL x7, rL x8] = some w from e6)
    exact (rF_b (r := 1603) (by decide) rfl).mp e7
  have f3 : x8 = x6 ||| x7 := Sum.inl.inj (Sum.inr.inj (ro_100.mp f3))
  clear m1 m2 m3 m4
  have q0 : rB K n p 151 [rR x0, rI x1, rI x2, rI x3, rI x4, rL x8] σ := ro_151.mpr ⟨_, hM, by
    refine ⟨f0.1, fun u h1 h2 => ?_⟩
    rw [f3, rBt_or, f0.2 u h1 h2]
    exact rRs (by omega) (by omega) (by omega) (by omega) (by
      rw [← f2 u h1 h2]
      unfold rR1
      rw [← f1]
      constructor
      · intro h; exact Or.inr ⟨by omega, h⟩
      · rintro (h | h)
        · exact absurd h.1 (by omega)
        · exact h.2)⟩
  exact ⟨p, fun _ => rfl, ⟨(fun q h => by cases h), fun q h => (by cases h), (fun f h => by cases h), (aAllc ⟨_, rfl, (rF_b (r := 2422) (by decide) rfl).mpr q0⟩ (fun f h => by cases h))⟩, [], List.mem_cons_self, fun f h => (by cases h)⟩
theorem rw_rvRW32 {K : Nat → Nat} {n : Nat} {JX : (Nat → jcell) → Prop} : aGho (rF K n) fa_T K n JX ag_rvRW32 := by
  refine aGho_of ⟨rfl, rfl⟩ ?_
  intro p σ ρ hH hX hA hM0
  have hG := aAG_of hA.1 (fun i e v he hv => (hA.2 i e v he hv).1)
  clear hA
  obtain ⟨v0, v1, v2, v3, v4, v5, v6, v7, v8, rfl, g0, g1, g2, g3, g4, g5, g6, g7, g8⟩ := rA_9 hG
  clear hG
  obtain ⟨x0, rfl, b0, d0⟩ := rG_ref (by decide) g0
  obtain ⟨x1, rfl, b1, d1⟩ := aG_int g1
  dsimp only at b1 d1
  obtain ⟨x2, rfl, b2, d2⟩ := aG_int g2
  dsimp only at b2 d2
  obtain ⟨x3, rfl, b3, d3⟩ := aG_int g3
  dsimp only at b3 d3
  obtain ⟨x4, rfl, b4, d4⟩ := aG_int g4
  dsimp only at b4 d4
  obtain ⟨x5, rfl, b5, d5⟩ := aG_int g5
  dsimp only at b5 d5
  obtain ⟨x6, rfl⟩ := aG_lng g6
  obtain ⟨x7, rfl⟩ := aG_lng g7
  obtain ⟨x8, rfl⟩ := aG_lng g8
  obtain ⟨m1, m2, m3, m4⟩ := hM0
  obtain ⟨M, hM⟩ := rMe_ex hH b0 d0
  have f0 : rB K n p 150 [rR x0, rI x1, rI x2, rI x3, rI x4, rL x6] σ := by
    obtain ⟨w, e6, e7⟩ := m4 (2406, [0, 1, 2, 3, 4, 6]) (List.mem_of_getElem? (i := 0) rfl)
    obtain rfl : [rR x0, rI x1, rI x2, rI x3, rI x4, rL x6] = w := Option.some.inj (show some [rR x0, rI x1, rI x2, rI x3, rI x4, rL x6] = some w from e6)
    exact (rF_b (r := 2406) (by decide) rfl).mp e7
  obtain ⟨M9, h9, f0⟩ := ro_150.mp f0
  obtain rfl := rMg_u hM h9
  clear h9
  have f1 : rB K n p 155 [rI x3, rI x4, rI x5] σ := by
    obtain ⟨w, e6, e7⟩ := m4 (2483, [3, 4, 5]) (List.mem_of_getElem? (i := 1) rfl)
    obtain rfl : [rI x3, rI x4, rI x5] = w := Option.some.inj (show some [rI x3, rI x4, rI x5] = some w from e6)
    exact (rF_b (r := 2483) (by decide) rfl).mp e7
  have f1 := ro_155.mp f1
  have f2 : rB K n p 144 [rR x0, rI x1, rI x3, rI x4, rL x7] σ := by
    obtain ⟨w, e6, e7⟩ := m4 (2309, [0, 1, 3, 4, 7]) (List.mem_of_getElem? (i := 2) rfl)
    obtain rfl : [rR x0, rI x1, rI x3, rI x4, rL x7] = w := Option.some.inj (show some [rR x0, rI x1, rI x3, rI x4, rL x7] = some w from e6)
    exact (rF_b (r := 2309) (by decide) rfl).mp e7
  obtain ⟨M9, h9, f2⟩ := ro_144.mp f2
  obtain rfl := rMg_u hM h9
  clear h9
  have f3 : rB K n p 100 [rL x6, rL x7, rL x8] σ := by
    obtain ⟨w, e6, e7⟩ := m4 (1603, [6, 7, 8]) (List.mem_of_getElem? (i := 3) rfl)
    obtain rfl : [rL x6, rL x7, rL x8] = w := Option.some.inj (show some [rL x6, rL x7, rL x8] = some w from e6)
    exact (rF_b (r := 1603) (by decide) rfl).mp e7
  have f3 : x8 = x6 ||| x7 := Sum.inl.inj (Sum.inr.inj (ro_100.mp f3))
  clear m1 m2 m3 m4
  have q0 : rB K n p 151 [rR x0, rI x1, rI x2, rI x3, rI x4, rL x8] σ := ro_151.mpr ⟨_, hM, by
    refine ⟨f0.1, fun u h1 h2 => ?_⟩
    rw [f3, rBt_or, f0.2 u h1 h2]
    exact rRs (by omega) (by omega) (by omega) (by omega) (by
      rw [← f2 u h1 h2]
      unfold rR1
      rw [← f1]
      constructor
      · intro h; exact Or.inr ⟨by omega, h⟩
      · rintro (h | h)
        · exact absurd h.1 (by omega)
        · exact h.2)⟩
  exact ⟨p, fun _ => rfl, ⟨(fun q h => by cases h), fun q h => (by cases h), (fun f h => by cases h), (aAllc ⟨_, rfl, (rF_b (r := 2422) (by decide) rfl).mpr q0⟩ (fun f h => by cases h))⟩, [], List.mem_cons_self, fun f h => (by cases h)⟩
theorem rw_rvRW52 {K : Nat → Nat} {n : Nat} {JX : (Nat → jcell) → Prop} : aGho (rF K n) fa_T K n JX ag_rvRW52 := by
  refine aGho_of ⟨rfl, rfl⟩ ?_
  intro p σ ρ hH hX hA hM0
  have hG := aAG_of hA.1 (fun i e v he hv => (hA.2 i e v he hv).1)
  clear hA
  obtain ⟨v0, v1, v2, v3, v4, v5, v6, v7, v8, rfl, g0, g1, g2, g3, g4, g5, g6, g7, g8⟩ := rA_9 hG
  clear hG
  obtain ⟨x0, rfl, b0, d0⟩ := rG_ref (by decide) g0
  obtain ⟨x1, rfl, b1, d1⟩ := aG_int g1
  dsimp only at b1 d1
  obtain ⟨x2, rfl, b2, d2⟩ := aG_int g2
  dsimp only at b2 d2
  obtain ⟨x3, rfl, b3, d3⟩ := aG_int g3
  dsimp only at b3 d3
  obtain ⟨x4, rfl, b4, d4⟩ := aG_int g4
  dsimp only at b4 d4
  obtain ⟨x5, rfl, b5, d5⟩ := aG_int g5
  dsimp only at b5 d5
  obtain ⟨x6, rfl⟩ := aG_lng g6
  obtain ⟨x7, rfl⟩ := aG_lng g7
  obtain ⟨x8, rfl⟩ := aG_lng g8
  obtain ⟨m1, m2, m3, m4⟩ := hM0
  obtain ⟨M, hM⟩ := rMe_ex hH b0 d0
  have f0 : rB K n p 150 [rR x0, rI x1, rI x2, rI x3, rI x4, rL x6] σ := by
    obtain ⟨w, e6, e7⟩ := m4 (2406, [0, 1, 2, 3, 4, 6]) (List.mem_of_getElem? (i := 0) rfl)
    obtain rfl : [rR x0, rI x1, rI x2, rI x3, rI x4, rL x6] = w := Option.some.inj (show some [rR x0, rI x1, rI x2, rI x3, rI x4, rL x6] = some w from e6)
    exact (rF_b (r := 2406) (by decide) rfl).mp e7
  obtain ⟨M9, h9, f0⟩ := ro_150.mp f0
  obtain rfl := rMg_u hM h9
  clear h9
  have f1 : rB K n p 155 [rI x3, rI x4, rI x5] σ := by
    obtain ⟨w, e6, e7⟩ := m4 (2483, [3, 4, 5]) (List.mem_of_getElem? (i := 1) rfl)
    obtain rfl : [rI x3, rI x4, rI x5] = w := Option.some.inj (show some [rI x3, rI x4, rI x5] = some w from e6)
    exact (rF_b (r := 2483) (by decide) rfl).mp e7
  have f1 := ro_155.mp f1
  have f2 : rB K n p 144 [rR x0, rI x1, rI x3, rI x4, rL x7] σ := by
    obtain ⟨w, e6, e7⟩ := m4 (2309, [0, 1, 3, 4, 7]) (List.mem_of_getElem? (i := 2) rfl)
    obtain rfl : [rR x0, rI x1, rI x3, rI x4, rL x7] = w := Option.some.inj (show some [rR x0, rI x1, rI x3, rI x4, rL x7] = some w from e6)
    exact (rF_b (r := 2309) (by decide) rfl).mp e7
  obtain ⟨M9, h9, f2⟩ := ro_144.mp f2
  obtain rfl := rMg_u hM h9
  clear h9
  have f3 : rB K n p 100 [rL x6, rL x7, rL x8] σ := by
    obtain ⟨w, e6, e7⟩ := m4 (1603, [6, 7, 8]) (List.mem_of_getElem? (i := 3) rfl)
    obtain rfl : [rL x6, rL x7, rL x8] = w := Option.some.inj (show some [rL x6, rL x7, rL x8] = some w from e6)
    exact (rF_b (r := 1603) (by decide) rfl).mp e7
  have f3 : x8 = x6 ||| x7 := Sum.inl.inj (Sum.inr.inj (ro_100.mp f3))
  clear m1 m2 m3 m4
  have q0 : rB K n p 151 [rR x0, rI x1, rI x2, rI x3, rI x4, rL x8] σ := ro_151.mpr ⟨_, hM, by
    refine ⟨f0.1, fun u h1 h2 => ?_⟩
    rw [f3, rBt_or, f0.2 u h1 h2]
    exact rRs (by omega) (by omega) (by omega) (by omega) (by
      rw [← f2 u h1 h2]
      unfold rR1
      rw [← f1]
      constructor
      · intro h; exact Or.inr ⟨by omega, h⟩
      · rintro (h | h)
        · exact absurd h.1 (by omega)
        · exact h.2)⟩
  exact ⟨p, fun _ => rfl, ⟨(fun q h => by cases h), fun q h => (by cases h), (fun f h => by cases h), (aAllc ⟨_, rfl, (rF_b (r := 2422) (by decide) rfl).mpr q0⟩ (fun f h => by cases h))⟩, [], List.mem_cons_self, fun f h => (by cases h)⟩
theorem rw_rvRN0 {K : Nat → Nat} {n : Nat} {JX : (Nat → jcell) → Prop} : aGho (rF K n) fa_T K n JX ag_rvRN0 := by
  refine aGho_of ⟨rfl, rfl⟩ ?_
  intro p σ ρ hH hX hA hM0
  have hG := aAG_of hA.1 (fun i e v he hv => (hA.2 i e v he hv).1)
  clear hA
  obtain ⟨v0, v1, v2, v3, v4, v5, v6, rfl, g0, g1, g2, g3, g4, g5, g6⟩ := rA_7 hG
  clear hG
  obtain ⟨x0, rfl, b0, d0⟩ := rG_ref (by decide) g0
  obtain ⟨x1, rfl, b1, d1⟩ := aG_int g1
  dsimp only at b1 d1
  obtain ⟨x2, rfl, b2, d2⟩ := aG_int g2
  dsimp only at b2 d2
  obtain ⟨x3, rfl, b3, d3⟩ := aG_int g3
  dsimp only at b3 d3
  obtain ⟨x4, rfl, b4, d4⟩ := aG_int g4
  dsimp only at b4 d4
  obtain ⟨x5, rfl, b5, d5⟩ := aG_int g5
  dsimp only at b5 d5
  obtain ⟨x6, rfl⟩ := aG_lng g6
  obtain ⟨m1, m2, m3, m4⟩ := hM0
  obtain ⟨M, hM⟩ := rMe_ex hH b0 d0
  have f0 : rB K n p 150 [rR x0, rI x1, rI x2, rI x3, rI x4, rL x6] σ := by
    obtain ⟨w, e6, e7⟩ := m4 (2406, [0, 1, 2, 3, 4, 6]) (List.mem_of_getElem? (i := 0) rfl)
    obtain rfl : [rR x0, rI x1, rI x2, rI x3, rI x4, rL x6] = w := Option.some.inj (show some [rR x0, rI x1, rI x2, rI x3, rI x4, rL x6] = some w from e6)
    exact (rF_b (r := 2406) (by decide) rfl).mp e7
  obtain ⟨M9, h9, f0⟩ := ro_150.mp f0
  obtain rfl := rMg_u hM h9
  clear h9
  have f1 : rB K n p 155 [rI x3, rI x4, rI x5] σ := by
    obtain ⟨w, e6, e7⟩ := m4 (2483, [3, 4, 5]) (List.mem_of_getElem? (i := 1) rfl)
    obtain rfl : [rI x3, rI x4, rI x5] = w := Option.some.inj (show some [rI x3, rI x4, rI x5] = some w from e6)
    exact (rF_b (r := 2483) (by decide) rfl).mp e7
  have f1 := ro_155.mp f1
  clear m1 m2 m3 m4
  have q0 : rB K n p 151 [rR x0, rI x1, rI x2, rI x3, rI x4, rL x6] σ := ro_151.mpr ⟨_, hM, by
    refine ⟨f0.1, fun u h1 h2 => ?_⟩
    rw [f0.2 u h1 h2]
    have h := rRs (M := M) (k := x2.toInt) (s := x1.toInt) (a := x3.toInt) (b := x4.toInt) (u := u) (A := False) (by omega) (by omega) (by omega) (by omega) ⟨False.elim, fun h => by
      unfold rR1 at h
      rw [← f1] at h
      rcases h with h | h
      · have := h.1; omega
      · have := h.1; omega⟩
    rw [or_false] at h
    exact h⟩
  exact ⟨p, fun _ => rfl, ⟨(fun q h => by cases h), fun q h => (by cases h), (fun f h => by cases h), (aAllc ⟨_, rfl, (rF_b (r := 2422) (by decide) rfl).mpr q0⟩ (fun f h => by cases h))⟩, [], List.mem_cons_self, fun f h => (by cases h)⟩
theorem rw_rvRN1 {K : Nat → Nat} {n : Nat} {JX : (Nat → jcell) → Prop} : aGho (rF K n) fa_T K n JX ag_rvRN1 := by
  refine aGho_of ⟨rfl, rfl⟩ ?_
  intro p σ ρ hH hX hA hM0
  have hG := aAG_of hA.1 (fun i e v he hv => (hA.2 i e v he hv).1)
  clear hA
  obtain ⟨v0, v1, v2, v3, v4, v5, v6, rfl, g0, g1, g2, g3, g4, g5, g6⟩ := rA_7 hG
  clear hG
  obtain ⟨x0, rfl, b0, d0⟩ := rG_ref (by decide) g0
  obtain ⟨x1, rfl, b1, d1⟩ := aG_int g1
  dsimp only at b1 d1
  obtain ⟨x2, rfl, b2, d2⟩ := aG_int g2
  dsimp only at b2 d2
  obtain ⟨x3, rfl, b3, d3⟩ := aG_int g3
  dsimp only at b3 d3
  obtain ⟨x4, rfl, b4, d4⟩ := aG_int g4
  dsimp only at b4 d4
  obtain ⟨x5, rfl, b5, d5⟩ := aG_int g5
  dsimp only at b5 d5
  obtain ⟨x6, rfl⟩ := aG_lng g6
  obtain ⟨m1, m2, m3, m4⟩ := hM0
  obtain ⟨M, hM⟩ := rMe_ex hH b0 d0
  have f0 : rB K n p 150 [rR x0, rI x1, rI x2, rI x3, rI x4, rL x6] σ := by
    obtain ⟨w, e6, e7⟩ := m4 (2406, [0, 1, 2, 3, 4, 6]) (List.mem_of_getElem? (i := 0) rfl)
    obtain rfl : [rR x0, rI x1, rI x2, rI x3, rI x4, rL x6] = w := Option.some.inj (show some [rR x0, rI x1, rI x2, rI x3, rI x4, rL x6] = some w from e6)
    exact (rF_b (r := 2406) (by decide) rfl).mp e7
  obtain ⟨M9, h9, f0⟩ := ro_150.mp f0
  obtain rfl := rMg_u hM h9
  clear h9
  have f1 : rB K n p 155 [rI x3, rI x4, rI x5] σ := by
    obtain ⟨w, e6, e7⟩ := m4 (2483, [3, 4, 5]) (List.mem_of_getElem? (i := 1) rfl)
    obtain rfl : [rI x3, rI x4, rI x5] = w := Option.some.inj (show some [rI x3, rI x4, rI x5] = some w from e6)
    exact (rF_b (r := 2483) (by decide) rfl).mp e7
  have f1 := ro_155.mp f1
  clear m1 m2 m3 m4
  have q0 : rB K n p 151 [rR x0, rI x1, rI x2, rI x3, rI x4, rL x6] σ := ro_151.mpr ⟨_, hM, by
    refine ⟨f0.1, fun u h1 h2 => ?_⟩
    rw [f0.2 u h1 h2]
    have h := rRs (M := M) (k := x2.toInt) (s := x1.toInt) (a := x3.toInt) (b := x4.toInt) (u := u) (A := False) (by omega) (by omega) (by omega) (by omega) ⟨False.elim, fun h => by
      unfold rR1 at h
      rw [← f1] at h
      rcases h with h | h
      · have := h.1; omega
      · have := h.1; omega⟩
    rw [or_false] at h
    exact h⟩
  exact ⟨p, fun _ => rfl, ⟨(fun q h => by cases h), fun q h => (by cases h), (fun f h => by cases h), (aAllc ⟨_, rfl, (rF_b (r := 2422) (by decide) rfl).mpr q0⟩ (fun f h => by cases h))⟩, [], List.mem_cons_self, fun f h => (by cases h)⟩
theorem rw_rvRN2 {K : Nat → Nat} {n : Nat} {JX : (Nat → jcell) → Prop} : aGho (rF K n) fa_T K n JX ag_rvRN2 := by
  refine aGho_of ⟨rfl, rfl⟩ ?_
  intro p σ ρ hH hX hA hM0
  have hG := aAG_of hA.1 (fun i e v he hv => (hA.2 i e v he hv).1)
  clear hA
  obtain ⟨v0, v1, v2, v3, v4, v5, v6, rfl, g0, g1, g2, g3, g4, g5, g6⟩ := rA_7 hG
  clear hG
  obtain ⟨x0, rfl, b0, d0⟩ := rG_ref (by decide) g0
  obtain ⟨x1, rfl, b1, d1⟩ := aG_int g1
  dsimp only at b1 d1
  obtain ⟨x2, rfl, b2, d2⟩ := aG_int g2
  dsimp only at b2 d2
  obtain ⟨x3, rfl, b3, d3⟩ := aG_int g3
  dsimp only at b3 d3
  obtain ⟨x4, rfl, b4, d4⟩ := aG_int g4
  dsimp only at b4 d4
  obtain ⟨x5, rfl, b5, d5⟩ := aG_int g5
  dsimp only at b5 d5
  obtain ⟨x6, rfl⟩ := aG_lng g6
  obtain ⟨m1, m2, m3, m4⟩ := hM0
  obtain ⟨M, hM⟩ := rMe_ex hH b0 d0
  have f0 : rB K n p 150 [rR x0, rI x1, rI x2, rI x3, rI x4, rL x6] σ := by
    obtain ⟨w, e6, e7⟩ := m4 (2406, [0, 1, 2, 3, 4, 6]) (List.mem_of_getElem? (i := 0) rfl)
    obtain rfl : [rR x0, rI x1, rI x2, rI x3, rI x4, rL x6] = w := Option.some.inj (show some [rR x0, rI x1, rI x2, rI x3, rI x4, rL x6] = some w from e6)
    exact (rF_b (r := 2406) (by decide) rfl).mp e7
  obtain ⟨M9, h9, f0⟩ := ro_150.mp f0
  obtain rfl := rMg_u hM h9
  clear h9
  have f1 : rB K n p 155 [rI x3, rI x4, rI x5] σ := by
    obtain ⟨w, e6, e7⟩ := m4 (2483, [3, 4, 5]) (List.mem_of_getElem? (i := 1) rfl)
    obtain rfl : [rI x3, rI x4, rI x5] = w := Option.some.inj (show some [rI x3, rI x4, rI x5] = some w from e6)
    exact (rF_b (r := 2483) (by decide) rfl).mp e7
  have f1 := ro_155.mp f1
  clear m1 m2 m3 m4
  have q0 : rB K n p 151 [rR x0, rI x1, rI x2, rI x3, rI x4, rL x6] σ := ro_151.mpr ⟨_, hM, by
    refine ⟨f0.1, fun u h1 h2 => ?_⟩
    rw [f0.2 u h1 h2]
    have h := rRs (M := M) (k := x2.toInt) (s := x1.toInt) (a := x3.toInt) (b := x4.toInt) (u := u) (A := False) (by omega) (by omega) (by omega) (by omega) ⟨False.elim, fun h => by
      unfold rR1 at h
      rw [← f1] at h
      rcases h with h | h
      · have := h.1; omega
      · have := h.1; omega⟩
    rw [or_false] at h
    exact h⟩
  exact ⟨p, fun _ => rfl, ⟨(fun q h => by cases h), fun q h => (by cases h), (fun f h => by cases h), (aAllc ⟨_, rfl, (rF_b (r := 2422) (by decide) rfl).mpr q0⟩ (fun f h => by cases h))⟩, [], List.mem_cons_self, fun f h => (by cases h)⟩
theorem rw_rvRN3 {K : Nat → Nat} {n : Nat} {JX : (Nat → jcell) → Prop} : aGho (rF K n) fa_T K n JX ag_rvRN3 := by
  refine aGho_of ⟨rfl, rfl⟩ ?_
  intro p σ ρ hH hX hA hM0
  have hG := aAG_of hA.1 (fun i e v he hv => (hA.2 i e v he hv).1)
  clear hA
  obtain ⟨v0, v1, v2, v3, v4, v5, v6, rfl, g0, g1, g2, g3, g4, g5, g6⟩ := rA_7 hG
  clear hG
  obtain ⟨x0, rfl, b0, d0⟩ := rG_ref (by decide) g0
  obtain ⟨x1, rfl, b1, d1⟩ := aG_int g1
  dsimp only at b1 d1
  obtain ⟨x2, rfl, b2, d2⟩ := aG_int g2
  dsimp only at b2 d2
  obtain ⟨x3, rfl, b3, d3⟩ := aG_int g3
  dsimp only at b3 d3
  obtain ⟨x4, rfl, b4, d4⟩ := aG_int g4
  dsimp only at b4 d4
  obtain ⟨x5, rfl, b5, d5⟩ := aG_int g5
  dsimp only at b5 d5
  obtain ⟨x6, rfl⟩ := aG_lng g6
  obtain ⟨m1, m2, m3, m4⟩ := hM0
  obtain ⟨M, hM⟩ := rMe_ex hH b0 d0
  have f0 : rB K n p 150 [rR x0, rI x1, rI x2, rI x3, rI x4, rL x6] σ := by
    obtain ⟨w, e6, e7⟩ := m4 (2406, [0, 1, 2, 3, 4, 6]) (List.mem_of_getElem? (i := 0) rfl)
    obtain rfl : [rR x0, rI x1, rI x2, rI x3, rI x4, rL x6] = w := Option.some.inj (show some [rR x0, rI x1, rI x2, rI x3, rI x4, rL x6] = some w from e6)
    exact (rF_b (r := 2406) (by decide) rfl).mp e7
  obtain ⟨M9, h9, f0⟩ := ro_150.mp f0
  obtain rfl := rMg_u hM h9
  clear h9
  have f1 : rB K n p 155 [rI x3, rI x4, rI x5] σ := by
    obtain ⟨w, e6, e7⟩ := m4 (2483, [3, 4, 5]) (List.mem_of_getElem? (i := 1) rfl)
    obtain rfl : [rI x3, rI x4, rI x5] = w := Option.some.inj (show some [rI x3, rI x4, rI x5] = some w from e6)
    exact (rF_b (r := 2483) (by decide) rfl).mp e7
  have f1 := ro_155.mp f1
  clear m1 m2 m3 m4
  have q0 : rB K n p 151 [rR x0, rI x1, rI x2, rI x3, rI x4, rL x6] σ := ro_151.mpr ⟨_, hM, by
    refine ⟨f0.1, fun u h1 h2 => ?_⟩
    rw [f0.2 u h1 h2]
    have h := rRs (M := M) (k := x2.toInt) (s := x1.toInt) (a := x3.toInt) (b := x4.toInt) (u := u) (A := False) (by omega) (by omega) (by omega) (by omega) ⟨False.elim, fun h => by
      unfold rR1 at h
      rw [← f1] at h
      rcases h with h | h
      · have := h.1; omega
      · have := h.1; omega⟩
    rw [or_false] at h
    exact h⟩
  exact ⟨p, fun _ => rfl, ⟨(fun q h => by cases h), fun q h => (by cases h), (fun f h => by cases h), (aAllc ⟨_, rfl, (rF_b (r := 2422) (by decide) rfl).mpr q0⟩ (fun f h => by cases h))⟩, [], List.mem_cons_self, fun f h => (by cases h)⟩
theorem rw_rvRN4 {K : Nat → Nat} {n : Nat} {JX : (Nat → jcell) → Prop} : aGho (rF K n) fa_T K n JX ag_rvRN4 := by
  refine aGho_of ⟨rfl, rfl⟩ ?_
  intro p σ ρ hH hX hA hM0
  have hG := aAG_of hA.1 (fun i e v he hv => (hA.2 i e v he hv).1)
  clear hA
  obtain ⟨v0, v1, v2, v3, v4, v5, v6, rfl, g0, g1, g2, g3, g4, g5, g6⟩ := rA_7 hG
  clear hG
  obtain ⟨x0, rfl, b0, d0⟩ := rG_ref (by decide) g0
  obtain ⟨x1, rfl, b1, d1⟩ := aG_int g1
  dsimp only at b1 d1
  obtain ⟨x2, rfl, b2, d2⟩ := aG_int g2
  dsimp only at b2 d2
  obtain ⟨x3, rfl, b3, d3⟩ := aG_int g3
  dsimp only at b3 d3
  obtain ⟨x4, rfl, b4, d4⟩ := aG_int g4
  dsimp only at b4 d4
  obtain ⟨x5, rfl, b5, d5⟩ := aG_int g5
  dsimp only at b5 d5
  obtain ⟨x6, rfl⟩ := aG_lng g6
  obtain ⟨m1, m2, m3, m4⟩ := hM0
  obtain ⟨M, hM⟩ := rMe_ex hH b0 d0
  have f0 : rB K n p 150 [rR x0, rI x1, rI x2, rI x3, rI x4, rL x6] σ := by
    obtain ⟨w, e6, e7⟩ := m4 (2406, [0, 1, 2, 3, 4, 6]) (List.mem_of_getElem? (i := 0) rfl)
    obtain rfl : [rR x0, rI x1, rI x2, rI x3, rI x4, rL x6] = w := Option.some.inj (show some [rR x0, rI x1, rI x2, rI x3, rI x4, rL x6] = some w from e6)
    exact (rF_b (r := 2406) (by decide) rfl).mp e7
  obtain ⟨M9, h9, f0⟩ := ro_150.mp f0
  obtain rfl := rMg_u hM h9
  clear h9
  have f1 : rB K n p 155 [rI x3, rI x4, rI x5] σ := by
    obtain ⟨w, e6, e7⟩ := m4 (2483, [3, 4, 5]) (List.mem_of_getElem? (i := 1) rfl)
    obtain rfl : [rI x3, rI x4, rI x5] = w := Option.some.inj (show some [rI x3, rI x4, rI x5] = some w from e6)
    exact (rF_b (r := 2483) (by decide) rfl).mp e7
  have f1 := ro_155.mp f1
  clear m1 m2 m3 m4
  have q0 : rB K n p 151 [rR x0, rI x1, rI x2, rI x3, rI x4, rL x6] σ := ro_151.mpr ⟨_, hM, by
    refine ⟨f0.1, fun u h1 h2 => ?_⟩
    rw [f0.2 u h1 h2]
    have h := rRs (M := M) (k := x2.toInt) (s := x1.toInt) (a := x3.toInt) (b := x4.toInt) (u := u) (A := False) (by omega) (by omega) (by omega) (by omega) ⟨False.elim, fun h => by
      unfold rR1 at h
      rw [← f1] at h
      rcases h with h | h
      · have := h.1; omega
      · have := h.1; omega⟩
    rw [or_false] at h
    exact h⟩
  exact ⟨p, fun _ => rfl, ⟨(fun q h => by cases h), fun q h => (by cases h), (fun f h => by cases h), (aAllc ⟨_, rfl, (rF_b (r := 2422) (by decide) rfl).mpr q0⟩ (fun f h => by cases h))⟩, [], List.mem_cons_self, fun f h => (by cases h)⟩
theorem rw_rvRN5 {K : Nat → Nat} {n : Nat} {JX : (Nat → jcell) → Prop} : aGho (rF K n) fa_T K n JX ag_rvRN5 := by
  refine aGho_of ⟨rfl, rfl⟩ ?_
  intro p σ ρ hH hX hA hM0
  have hG := aAG_of hA.1 (fun i e v he hv => (hA.2 i e v he hv).1)
  clear hA
  obtain ⟨v0, v1, v2, v3, v4, v5, v6, rfl, g0, g1, g2, g3, g4, g5, g6⟩ := rA_7 hG
  clear hG
  obtain ⟨x0, rfl, b0, d0⟩ := rG_ref (by decide) g0
  obtain ⟨x1, rfl, b1, d1⟩ := aG_int g1
  dsimp only at b1 d1
  obtain ⟨x2, rfl, b2, d2⟩ := aG_int g2
  dsimp only at b2 d2
  obtain ⟨x3, rfl, b3, d3⟩ := aG_int g3
  dsimp only at b3 d3
  obtain ⟨x4, rfl, b4, d4⟩ := aG_int g4
  dsimp only at b4 d4
  obtain ⟨x5, rfl, b5, d5⟩ := aG_int g5
  dsimp only at b5 d5
  obtain ⟨x6, rfl⟩ := aG_lng g6
  obtain ⟨m1, m2, m3, m4⟩ := hM0
  obtain ⟨M, hM⟩ := rMe_ex hH b0 d0
  have f0 : rB K n p 150 [rR x0, rI x1, rI x2, rI x3, rI x4, rL x6] σ := by
    obtain ⟨w, e6, e7⟩ := m4 (2406, [0, 1, 2, 3, 4, 6]) (List.mem_of_getElem? (i := 0) rfl)
    obtain rfl : [rR x0, rI x1, rI x2, rI x3, rI x4, rL x6] = w := Option.some.inj (show some [rR x0, rI x1, rI x2, rI x3, rI x4, rL x6] = some w from e6)
    exact (rF_b (r := 2406) (by decide) rfl).mp e7
  obtain ⟨M9, h9, f0⟩ := ro_150.mp f0
  obtain rfl := rMg_u hM h9
  clear h9
  have f1 : rB K n p 155 [rI x3, rI x4, rI x5] σ := by
    obtain ⟨w, e6, e7⟩ := m4 (2483, [3, 4, 5]) (List.mem_of_getElem? (i := 1) rfl)
    obtain rfl : [rI x3, rI x4, rI x5] = w := Option.some.inj (show some [rI x3, rI x4, rI x5] = some w from e6)
    exact (rF_b (r := 2483) (by decide) rfl).mp e7
  have f1 := ro_155.mp f1
  clear m1 m2 m3 m4
  have q0 : rB K n p 151 [rR x0, rI x1, rI x2, rI x3, rI x4, rL x6] σ := ro_151.mpr ⟨_, hM, by
    refine ⟨f0.1, fun u h1 h2 => ?_⟩
    rw [f0.2 u h1 h2]
    have h := rRs (M := M) (k := x2.toInt) (s := x1.toInt) (a := x3.toInt) (b := x4.toInt) (u := u) (A := False) (by omega) (by omega) (by omega) (by omega) ⟨False.elim, fun h => by
      unfold rR1 at h
      rw [← f1] at h
      rcases h with h | h
      · have := h.1; omega
      · have := h.1; omega⟩
    rw [or_false] at h
    exact h⟩
  exact ⟨p, fun _ => rfl, ⟨(fun q h => by cases h), fun q h => (by cases h), (fun f h => by cases h), (aAllc ⟨_, rfl, (rF_b (r := 2422) (by decide) rfl).mpr q0⟩ (fun f h => by cases h))⟩, [], List.mem_cons_self, fun f h => (by cases h)⟩
theorem rw_rvRN6 {K : Nat → Nat} {n : Nat} {JX : (Nat → jcell) → Prop} : aGho (rF K n) fa_T K n JX ag_rvRN6 := by
  refine aGho_of ⟨rfl, rfl⟩ ?_
  intro p σ ρ hH hX hA hM0
  have hG := aAG_of hA.1 (fun i e v he hv => (hA.2 i e v he hv).1)
  clear hA
  obtain ⟨v0, v1, v2, v3, v4, v5, v6, rfl, g0, g1, g2, g3, g4, g5, g6⟩ := rA_7 hG
  clear hG
  obtain ⟨x0, rfl, b0, d0⟩ := rG_ref (by decide) g0
  obtain ⟨x1, rfl, b1, d1⟩ := aG_int g1
  dsimp only at b1 d1
  obtain ⟨x2, rfl, b2, d2⟩ := aG_int g2
  dsimp only at b2 d2
  obtain ⟨x3, rfl, b3, d3⟩ := aG_int g3
  dsimp only at b3 d3
  obtain ⟨x4, rfl, b4, d4⟩ := aG_int g4
  dsimp only at b4 d4
  obtain ⟨x5, rfl, b5, d5⟩ := aG_int g5
  dsimp only at b5 d5
  obtain ⟨x6, rfl⟩ := aG_lng g6
  obtain ⟨m1, m2, m3, m4⟩ := hM0
  obtain ⟨M, hM⟩ := rMe_ex hH b0 d0
  have f0 : rB K n p 150 [rR x0, rI x1, rI x2, rI x3, rI x4, rL x6] σ := by
    obtain ⟨w, e6, e7⟩ := m4 (2406, [0, 1, 2, 3, 4, 6]) (List.mem_of_getElem? (i := 0) rfl)
    obtain rfl : [rR x0, rI x1, rI x2, rI x3, rI x4, rL x6] = w := Option.some.inj (show some [rR x0, rI x1, rI x2, rI x3, rI x4, rL x6] = some w from e6)
    exact (rF_b (r := 2406) (by decide) rfl).mp e7
  obtain ⟨M9, h9, f0⟩ := ro_150.mp f0
  obtain rfl := rMg_u hM h9
  clear h9
  have f1 : rB K n p 155 [rI x3, rI x4, rI x5] σ := by
    obtain ⟨w, e6, e7⟩ := m4 (2483, [3, 4, 5]) (List.mem_of_getElem? (i := 1) rfl)
    obtain rfl : [rI x3, rI x4, rI x5] = w := Option.some.inj (show some [rI x3, rI x4, rI x5] = some w from e6)
    exact (rF_b (r := 2483) (by decide) rfl).mp e7
  have f1 := ro_155.mp f1
  clear m1 m2 m3 m4
  have q0 : rB K n p 151 [rR x0, rI x1, rI x2, rI x3, rI x4, rL x6] σ := ro_151.mpr ⟨_, hM, by
    refine ⟨f0.1, fun u h1 h2 => ?_⟩
    rw [f0.2 u h1 h2]
    have h := rRs (M := M) (k := x2.toInt) (s := x1.toInt) (a := x3.toInt) (b := x4.toInt) (u := u) (A := False) (by omega) (by omega) (by omega) (by omega) ⟨False.elim, fun h => by
      unfold rR1 at h
      rw [← f1] at h
      rcases h with h | h
      · have := h.1; omega
      · have := h.1; omega⟩
    rw [or_false] at h
    exact h⟩
  exact ⟨p, fun _ => rfl, ⟨(fun q h => by cases h), fun q h => (by cases h), (fun f h => by cases h), (aAllc ⟨_, rfl, (rF_b (r := 2422) (by decide) rfl).mpr q0⟩ (fun f h => by cases h))⟩, [], List.mem_cons_self, fun f h => (by cases h)⟩
theorem rw_rvRN7 {K : Nat → Nat} {n : Nat} {JX : (Nat → jcell) → Prop} : aGho (rF K n) fa_T K n JX ag_rvRN7 := by
  refine aGho_of ⟨rfl, rfl⟩ ?_
  intro p σ ρ hH hX hA hM0
  have hG := aAG_of hA.1 (fun i e v he hv => (hA.2 i e v he hv).1)
  clear hA
  obtain ⟨v0, v1, v2, v3, v4, v5, v6, rfl, g0, g1, g2, g3, g4, g5, g6⟩ := rA_7 hG
  clear hG
  obtain ⟨x0, rfl, b0, d0⟩ := rG_ref (by decide) g0
  obtain ⟨x1, rfl, b1, d1⟩ := aG_int g1
  dsimp only at b1 d1
  obtain ⟨x2, rfl, b2, d2⟩ := aG_int g2
  dsimp only at b2 d2
  obtain ⟨x3, rfl, b3, d3⟩ := aG_int g3
  dsimp only at b3 d3
  obtain ⟨x4, rfl, b4, d4⟩ := aG_int g4
  dsimp only at b4 d4
  obtain ⟨x5, rfl, b5, d5⟩ := aG_int g5
  dsimp only at b5 d5
  obtain ⟨x6, rfl⟩ := aG_lng g6
  obtain ⟨m1, m2, m3, m4⟩ := hM0
  obtain ⟨M, hM⟩ := rMe_ex hH b0 d0
  have f0 : rB K n p 150 [rR x0, rI x1, rI x2, rI x3, rI x4, rL x6] σ := by
    obtain ⟨w, e6, e7⟩ := m4 (2406, [0, 1, 2, 3, 4, 6]) (List.mem_of_getElem? (i := 0) rfl)
    obtain rfl : [rR x0, rI x1, rI x2, rI x3, rI x4, rL x6] = w := Option.some.inj (show some [rR x0, rI x1, rI x2, rI x3, rI x4, rL x6] = some w from e6)
    exact (rF_b (r := 2406) (by decide) rfl).mp e7
  obtain ⟨M9, h9, f0⟩ := ro_150.mp f0
  obtain rfl := rMg_u hM h9
  clear h9
  have f1 : rB K n p 155 [rI x3, rI x4, rI x5] σ := by
    obtain ⟨w, e6, e7⟩ := m4 (2483, [3, 4, 5]) (List.mem_of_getElem? (i := 1) rfl)
    obtain rfl : [rI x3, rI x4, rI x5] = w := Option.some.inj (show some [rI x3, rI x4, rI x5] = some w from e6)
    exact (rF_b (r := 2483) (by decide) rfl).mp e7
  have f1 := ro_155.mp f1
  clear m1 m2 m3 m4
  have q0 : rB K n p 151 [rR x0, rI x1, rI x2, rI x3, rI x4, rL x6] σ := ro_151.mpr ⟨_, hM, by
    refine ⟨f0.1, fun u h1 h2 => ?_⟩
    rw [f0.2 u h1 h2]
    have h := rRs (M := M) (k := x2.toInt) (s := x1.toInt) (a := x3.toInt) (b := x4.toInt) (u := u) (A := False) (by omega) (by omega) (by omega) (by omega) ⟨False.elim, fun h => by
      unfold rR1 at h
      rw [← f1] at h
      rcases h with h | h
      · have := h.1; omega
      · have := h.1; omega⟩
    rw [or_false] at h
    exact h⟩
  exact ⟨p, fun _ => rfl, ⟨(fun q h => by cases h), fun q h => (by cases h), (fun f h => by cases h), (aAllc ⟨_, rfl, (rF_b (r := 2422) (by decide) rfl).mpr q0⟩ (fun f h => by cases h))⟩, [], List.mem_cons_self, fun f h => (by cases h)⟩
theorem rw_rvRN8 {K : Nat → Nat} {n : Nat} {JX : (Nat → jcell) → Prop} : aGho (rF K n) fa_T K n JX ag_rvRN8 := by
  refine aGho_of ⟨rfl, rfl⟩ ?_
  intro p σ ρ hH hX hA hM0
  have hG := aAG_of hA.1 (fun i e v he hv => (hA.2 i e v he hv).1)
  clear hA
  obtain ⟨v0, v1, v2, v3, v4, v5, v6, rfl, g0, g1, g2, g3, g4, g5, g6⟩ := rA_7 hG
  clear hG
  obtain ⟨x0, rfl, b0, d0⟩ := rG_ref (by decide) g0
  obtain ⟨x1, rfl, b1, d1⟩ := aG_int g1
  dsimp only at b1 d1
  obtain ⟨x2, rfl, b2, d2⟩ := aG_int g2
  dsimp only at b2 d2
  obtain ⟨x3, rfl, b3, d3⟩ := aG_int g3
  dsimp only at b3 d3
  obtain ⟨x4, rfl, b4, d4⟩ := aG_int g4
  dsimp only at b4 d4
  obtain ⟨x5, rfl, b5, d5⟩ := aG_int g5
  dsimp only at b5 d5
  obtain ⟨x6, rfl⟩ := aG_lng g6
  obtain ⟨m1, m2, m3, m4⟩ := hM0
  obtain ⟨M, hM⟩ := rMe_ex hH b0 d0
  have f0 : rB K n p 150 [rR x0, rI x1, rI x2, rI x3, rI x4, rL x6] σ := by
    obtain ⟨w, e6, e7⟩ := m4 (2406, [0, 1, 2, 3, 4, 6]) (List.mem_of_getElem? (i := 0) rfl)
    obtain rfl : [rR x0, rI x1, rI x2, rI x3, rI x4, rL x6] = w := Option.some.inj (show some [rR x0, rI x1, rI x2, rI x3, rI x4, rL x6] = some w from e6)
    exact (rF_b (r := 2406) (by decide) rfl).mp e7
  obtain ⟨M9, h9, f0⟩ := ro_150.mp f0
  obtain rfl := rMg_u hM h9
  clear h9
  have f1 : rB K n p 155 [rI x3, rI x4, rI x5] σ := by
    obtain ⟨w, e6, e7⟩ := m4 (2483, [3, 4, 5]) (List.mem_of_getElem? (i := 1) rfl)
    obtain rfl : [rI x3, rI x4, rI x5] = w := Option.some.inj (show some [rI x3, rI x4, rI x5] = some w from e6)
    exact (rF_b (r := 2483) (by decide) rfl).mp e7
  have f1 := ro_155.mp f1
  clear m1 m2 m3 m4
  have q0 : rB K n p 151 [rR x0, rI x1, rI x2, rI x3, rI x4, rL x6] σ := ro_151.mpr ⟨_, hM, by
    refine ⟨f0.1, fun u h1 h2 => ?_⟩
    rw [f0.2 u h1 h2]
    have h := rRs (M := M) (k := x2.toInt) (s := x1.toInt) (a := x3.toInt) (b := x4.toInt) (u := u) (A := False) (by omega) (by omega) (by omega) (by omega) ⟨False.elim, fun h => by
      unfold rR1 at h
      rw [← f1] at h
      rcases h with h | h
      · have := h.1; omega
      · have := h.1; omega⟩
    rw [or_false] at h
    exact h⟩
  exact ⟨p, fun _ => rfl, ⟨(fun q h => by cases h), fun q h => (by cases h), (fun f h => by cases h), (aAllc ⟨_, rfl, (rF_b (r := 2422) (by decide) rfl).mpr q0⟩ (fun f h => by cases h))⟩, [], List.mem_cons_self, fun f h => (by cases h)⟩
theorem rw_rvRN9 {K : Nat → Nat} {n : Nat} {JX : (Nat → jcell) → Prop} : aGho (rF K n) fa_T K n JX ag_rvRN9 := by
  refine aGho_of ⟨rfl, rfl⟩ ?_
  intro p σ ρ hH hX hA hM0
  have hG := aAG_of hA.1 (fun i e v he hv => (hA.2 i e v he hv).1)
  clear hA
  obtain ⟨v0, v1, v2, v3, v4, v5, v6, rfl, g0, g1, g2, g3, g4, g5, g6⟩ := rA_7 hG
  clear hG
  obtain ⟨x0, rfl, b0, d0⟩ := rG_ref (by decide) g0
  obtain ⟨x1, rfl, b1, d1⟩ := aG_int g1
  dsimp only at b1 d1
  obtain ⟨x2, rfl, b2, d2⟩ := aG_int g2
  dsimp only at b2 d2
  obtain ⟨x3, rfl, b3, d3⟩ := aG_int g3
  dsimp only at b3 d3
  obtain ⟨x4, rfl, b4, d4⟩ := aG_int g4
  dsimp only at b4 d4
  obtain ⟨x5, rfl, b5, d5⟩ := aG_int g5
  dsimp only at b5 d5
  obtain ⟨x6, rfl⟩ := aG_lng g6
  obtain ⟨m1, m2, m3, m4⟩ := hM0
  obtain ⟨M, hM⟩ := rMe_ex hH b0 d0
  have f0 : rB K n p 150 [rR x0, rI x1, rI x2, rI x3, rI x4, rL x6] σ := by
    obtain ⟨w, e6, e7⟩ := m4 (2406, [0, 1, 2, 3, 4, 6]) (List.mem_of_getElem? (i := 0) rfl)
    obtain rfl : [rR x0, rI x1, rI x2, rI x3, rI x4, rL x6] = w := Option.some.inj (show some [rR x0, rI x1, rI x2, rI x3, rI x4, rL x6] = some w from e6)
    exact (rF_b (r := 2406) (by decide) rfl).mp e7
  obtain ⟨M9, h9, f0⟩ := ro_150.mp f0
  obtain rfl := rMg_u hM h9
  clear h9
  have f1 : rB K n p 155 [rI x3, rI x4, rI x5] σ := by
    obtain ⟨w, e6, e7⟩ := m4 (2483, [3, 4, 5]) (List.mem_of_getElem? (i := 1) rfl)
    obtain rfl : [rI x3, rI x4, rI x5] = w := Option.some.inj (show some [rI x3, rI x4, rI x5] = some w from e6)
    exact (rF_b (r := 2483) (by decide) rfl).mp e7
  have f1 := ro_155.mp f1
  clear m1 m2 m3 m4
  have q0 : rB K n p 151 [rR x0, rI x1, rI x2, rI x3, rI x4, rL x6] σ := ro_151.mpr ⟨_, hM, by
    refine ⟨f0.1, fun u h1 h2 => ?_⟩
    rw [f0.2 u h1 h2]
    have h := rRs (M := M) (k := x2.toInt) (s := x1.toInt) (a := x3.toInt) (b := x4.toInt) (u := u) (A := False) (by omega) (by omega) (by omega) (by omega) ⟨False.elim, fun h => by
      unfold rR1 at h
      rw [← f1] at h
      rcases h with h | h
      · have := h.1; omega
      · have := h.1; omega⟩
    rw [or_false] at h
    exact h⟩
  exact ⟨p, fun _ => rfl, ⟨(fun q h => by cases h), fun q h => (by cases h), (fun f h => by cases h), (aAllc ⟨_, rfl, (rF_b (r := 2422) (by decide) rfl).mpr q0⟩ (fun f h => by cases h))⟩, [], List.mem_cons_self, fun f h => (by cases h)⟩
theorem rw_rvRN10 {K : Nat → Nat} {n : Nat} {JX : (Nat → jcell) → Prop} : aGho (rF K n) fa_T K n JX ag_rvRN10 := by
  refine aGho_of ⟨rfl, rfl⟩ ?_
  intro p σ ρ hH hX hA hM0
  have hG := aAG_of hA.1 (fun i e v he hv => (hA.2 i e v he hv).1)
  clear hA
  obtain ⟨v0, v1, v2, v3, v4, v5, v6, rfl, g0, g1, g2, g3, g4, g5, g6⟩ := rA_7 hG
  clear hG
  obtain ⟨x0, rfl, b0, d0⟩ := rG_ref (by decide) g0
  obtain ⟨x1, rfl, b1, d1⟩ := aG_int g1
  dsimp only at b1 d1
  obtain ⟨x2, rfl, b2, d2⟩ := aG_int g2
  dsimp only at b2 d2
  obtain ⟨x3, rfl, b3, d3⟩ := aG_int g3
  dsimp only at b3 d3
  obtain ⟨x4, rfl, b4, d4⟩ := aG_int g4
  dsimp only at b4 d4
  obtain ⟨x5, rfl, b5, d5⟩ := aG_int g5
  dsimp only at b5 d5
  obtain ⟨x6, rfl⟩ := aG_lng g6
  obtain ⟨m1, m2, m3, m4⟩ := hM0
  obtain ⟨M, hM⟩ := rMe_ex hH b0 d0
  have f0 : rB K n p 150 [rR x0, rI x1, rI x2, rI x3, rI x4, rL x6] σ := by
    obtain ⟨w, e6, e7⟩ := m4 (2406, [0, 1, 2, 3, 4, 6]) (List.mem_of_getElem? (i := 0) rfl)
    obtain rfl : [rR x0, rI x1, rI x2, rI x3, rI x4, rL x6] = w := Option.some.inj (show some [rR x0, rI x1, rI x2, rI x3, rI x4, rL x6] = some w from e6)
    exact (rF_b (r := 2406) (by decide) rfl).mp e7
  obtain ⟨M9, h9, f0⟩ := ro_150.mp f0
  obtain rfl := rMg_u hM h9
  clear h9
  have f1 : rB K n p 155 [rI x3, rI x4, rI x5] σ := by
    obtain ⟨w, e6, e7⟩ := m4 (2483, [3, 4, 5]) (List.mem_of_getElem? (i := 1) rfl)
    obtain rfl : [rI x3, rI x4, rI x5] = w := Option.some.inj (show some [rI x3, rI x4, rI x5] = some w from e6)
    exact (rF_b (r := 2483) (by decide) rfl).mp e7
  have f1 := ro_155.mp f1
  clear m1 m2 m3 m4
  have q0 : rB K n p 151 [rR x0, rI x1, rI x2, rI x3, rI x4, rL x6] σ := ro_151.mpr ⟨_, hM, by
    refine ⟨f0.1, fun u h1 h2 => ?_⟩
    rw [f0.2 u h1 h2]
    have h := rRs (M := M) (k := x2.toInt) (s := x1.toInt) (a := x3.toInt) (b := x4.toInt) (u := u) (A := False) (by omega) (by omega) (by omega) (by omega) ⟨False.elim, fun h => by
      unfold rR1 at h
      rw [← f1] at h
      rcases h with h | h
      · have := h.1; omega
      · have := h.1; omega⟩
    rw [or_false] at h
    exact h⟩
  exact ⟨p, fun _ => rfl, ⟨(fun q h => by cases h), fun q h => (by cases h), (fun f h => by cases h), (aAllc ⟨_, rfl, (rF_b (r := 2422) (by decide) rfl).mpr q0⟩ (fun f h => by cases h))⟩, [], List.mem_cons_self, fun f h => (by cases h)⟩
theorem rw_rvRN11 {K : Nat → Nat} {n : Nat} {JX : (Nat → jcell) → Prop} : aGho (rF K n) fa_T K n JX ag_rvRN11 := by
  refine aGho_of ⟨rfl, rfl⟩ ?_
  intro p σ ρ hH hX hA hM0
  have hG := aAG_of hA.1 (fun i e v he hv => (hA.2 i e v he hv).1)
  clear hA
  obtain ⟨v0, v1, v2, v3, v4, v5, v6, rfl, g0, g1, g2, g3, g4, g5, g6⟩ := rA_7 hG
  clear hG
  obtain ⟨x0, rfl, b0, d0⟩ := rG_ref (by decide) g0
  obtain ⟨x1, rfl, b1, d1⟩ := aG_int g1
  dsimp only at b1 d1
  obtain ⟨x2, rfl, b2, d2⟩ := aG_int g2
  dsimp only at b2 d2
  obtain ⟨x3, rfl, b3, d3⟩ := aG_int g3
  dsimp only at b3 d3
  obtain ⟨x4, rfl, b4, d4⟩ := aG_int g4
  dsimp only at b4 d4
  obtain ⟨x5, rfl, b5, d5⟩ := aG_int g5
  dsimp only at b5 d5
  obtain ⟨x6, rfl⟩ := aG_lng g6
  obtain ⟨m1, m2, m3, m4⟩ := hM0
  obtain ⟨M, hM⟩ := rMe_ex hH b0 d0
  have f0 : rB K n p 150 [rR x0, rI x1, rI x2, rI x3, rI x4, rL x6] σ := by
    obtain ⟨w, e6, e7⟩ := m4 (2406, [0, 1, 2, 3, 4, 6]) (List.mem_of_getElem? (i := 0) rfl)
    obtain rfl : [rR x0, rI x1, rI x2, rI x3, rI x4, rL x6] = w := Option.some.inj (show some [rR x0, rI x1, rI x2, rI x3, rI x4, rL x6] = some w from e6)
    exact (rF_b (r := 2406) (by decide) rfl).mp e7
  obtain ⟨M9, h9, f0⟩ := ro_150.mp f0
  obtain rfl := rMg_u hM h9
  clear h9
  have f1 : rB K n p 155 [rI x3, rI x4, rI x5] σ := by
    obtain ⟨w, e6, e7⟩ := m4 (2483, [3, 4, 5]) (List.mem_of_getElem? (i := 1) rfl)
    obtain rfl : [rI x3, rI x4, rI x5] = w := Option.some.inj (show some [rI x3, rI x4, rI x5] = some w from e6)
    exact (rF_b (r := 2483) (by decide) rfl).mp e7
  have f1 := ro_155.mp f1
  clear m1 m2 m3 m4
  have q0 : rB K n p 151 [rR x0, rI x1, rI x2, rI x3, rI x4, rL x6] σ := ro_151.mpr ⟨_, hM, by
    refine ⟨f0.1, fun u h1 h2 => ?_⟩
    rw [f0.2 u h1 h2]
    have h := rRs (M := M) (k := x2.toInt) (s := x1.toInt) (a := x3.toInt) (b := x4.toInt) (u := u) (A := False) (by omega) (by omega) (by omega) (by omega) ⟨False.elim, fun h => by
      unfold rR1 at h
      rw [← f1] at h
      rcases h with h | h
      · have := h.1; omega
      · have := h.1; omega⟩
    rw [or_false] at h
    exact h⟩
  exact ⟨p, fun _ => rfl, ⟨(fun q h => by cases h), fun q h => (by cases h), (fun f h => by cases h), (aAllc ⟨_, rfl, (rF_b (r := 2422) (by decide) rfl).mpr q0⟩ (fun f h => by cases h))⟩, [], List.mem_cons_self, fun f h => (by cases h)⟩
theorem rw_rvRj {K : Nat → Nat} {n : Nat} {JX : (Nat → jcell) → Prop} : aGho (rF K n) fa_T K n JX ag_rvRj := by
  refine aGho_of ⟨rfl, rfl⟩ ?_
  intro p σ ρ hH hX hA hM0
  have hG := aAG_of hA.1 (fun i e v he hv => (hA.2 i e v he hv).1)
  clear hA
  obtain ⟨v0, v1, v2, v3, v4, v5, v6, rfl, g0, g1, g2, g3, g4, g5, g6⟩ := rA_7 hG
  clear hG
  obtain ⟨x0, rfl, b0, d0⟩ := rG_ref (by decide) g0
  obtain ⟨x1, rfl, b1, d1⟩ := aG_int g1
  dsimp only at b1 d1
  obtain ⟨x2, rfl, b2, d2⟩ := aG_int g2
  dsimp only at b2 d2
  obtain ⟨x3, rfl, b3, d3⟩ := aG_int g3
  dsimp only at b3 d3
  obtain ⟨x4, rfl, b4, d4⟩ := aG_int g4
  dsimp only at b4 d4
  obtain ⟨x5, rfl⟩ := aG_lng g5
  obtain ⟨x6, rfl, b6, d6⟩ := aG_int g6
  dsimp only at b6 d6
  obtain ⟨m1, m2, m3, m4⟩ := hM0
  obtain ⟨M, hM⟩ := rMe_ex hH b0 d0
  have l0 : 0 ≤ (1 * x6.toInt + (-1 * x4.toInt + 0)) + -1 := by
    obtain ⟨z, e6, e7⟩ := m3 ([(6, 1), (4, -1)], -1) (List.mem_of_getElem? (i := 0) rfl)
    obtain rfl : (1 * x6.toInt + (-1 * x4.toInt + 0)) = z := Option.some.inj (show some (1 * x6.toInt + (-1 * x4.toInt + 0)) = some z from e6)
    exact e7
  have l1 : 0 ≤ (-1 * x6.toInt + (1 * x4.toInt + 0)) + 1 := by
    obtain ⟨z, e6, e7⟩ := m3 ([(6, -1), (4, 1)], 1) (List.mem_of_getElem? (i := 1) rfl)
    obtain rfl : (-1 * x6.toInt + (1 * x4.toInt + 0)) = z := Option.some.inj (show some (-1 * x6.toInt + (1 * x4.toInt + 0)) = some z from e6)
    exact e7
  have f0 : rB K n p 151 [rR x0, rI x1, rI x2, rI x3, rI x4, rL x5] σ := by
    obtain ⟨w, e6, e7⟩ := m4 (2422, [0, 1, 2, 3, 4, 5]) (List.mem_of_getElem? (i := 0) rfl)
    obtain rfl : [rR x0, rI x1, rI x2, rI x3, rI x4, rL x5] = w := Option.some.inj (show some [rR x0, rI x1, rI x2, rI x3, rI x4, rL x5] = some w from e6)
    exact (rF_b (r := 2422) (by decide) rfl).mp e7
  obtain ⟨M9, h9, f0⟩ := ro_151.mp f0
  obtain rfl := rMg_u hM h9
  clear h9
  clear m1 m2 m3 m4
  have q0 : rB K n p 150 [rR x0, rI x1, rI x2, rI x3, rI x6, rL x5] σ := ro_150.mpr ⟨_, hM, by
    exact ⟨f0.1, fun u h1 h2 => by rw [f0.2 u h1 h2, show x6.toInt = x4.toInt + 1 by omega]⟩⟩
  exact ⟨p, fun _ => rfl, ⟨(fun q h => by cases h), fun q h => (by cases h), (fun f h => by cases h), (aAllc ⟨_, rfl, (rF_b (r := 2406) (by decide) rfl).mpr q0⟩ (fun f h => by cases h))⟩, [], List.mem_cons_self, fun f h => (by cases h)⟩
theorem rw_rvRo {K : Nat → Nat} {n : Nat} {JX : (Nat → jcell) → Prop} : aGho (rF K n) fa_T K n JX ag_rvRo := by
  refine aGho_of ⟨rfl, rfl⟩ ?_
  intro p σ ρ hH hX hA hM0
  have hG := aAG_of hA.1 (fun i e v he hv => (hA.2 i e v he hv).1)
  clear hA
  obtain ⟨v0, v1, v2, v3, v4, v5, rfl, g0, g1, g2, g3, g4, g5⟩ := rA_6 hG
  clear hG
  obtain ⟨x0, rfl, b0, d0⟩ := rG_ref (by decide) g0
  obtain ⟨x1, rfl, b1, d1⟩ := aG_int g1
  dsimp only at b1 d1
  obtain ⟨x2, rfl, b2, d2⟩ := aG_int g2
  dsimp only at b2 d2
  obtain ⟨x3, rfl, b3, d3⟩ := aG_int g3
  dsimp only at b3 d3
  obtain ⟨x4, rfl, b4, d4⟩ := aG_int g4
  dsimp only at b4 d4
  obtain ⟨x5, rfl⟩ := aG_lng g5
  obtain ⟨m1, m2, m3, m4⟩ := hM0
  obtain ⟨M, hM⟩ := rMe_ex hH b0 d0
  have f0 : rB K n p 150 [rR x0, rI x1, rI x2, rI x3, rI x4, rL x5] σ := by
    obtain ⟨w, e6, e7⟩ := m4 (2406, [0, 1, 2, 3, 4, 5]) (List.mem_of_getElem? (i := 0) rfl)
    obtain rfl : [rR x0, rI x1, rI x2, rI x3, rI x4, rL x5] = w := Option.some.inj (show some [rR x0, rI x1, rI x2, rI x3, rI x4, rL x5] = some w from e6)
    exact (rF_b (r := 2406) (by decide) rfl).mp e7
  obtain ⟨M9, h9, f0⟩ := ro_150.mp f0
  obtain rfl := rMg_u hM h9
  clear h9
  clear m1 m2 m3 m4
  have q0 : rB K n p 152 [rR x0, rI x1, rI x2, rI x3, rL x5] σ := ro_152.mpr ⟨_, hM, by
    refine ⟨f0.1, fun u h1 h2 => ?_⟩
    rw [f0.2 u h1 h2]
    constructor
    · rintro ⟨f, r, h3, h4, h5, h6, h7⟩
      exact ⟨f, r, h3, by omega, h5, h6, h7⟩
    · rintro ⟨f, r, h3, h4, h5, h6, h7⟩
      exact ⟨f, r, h3, by omega, h5, h6, h7⟩⟩
  exact ⟨p, fun _ => rfl, ⟨(fun q h => by cases h), fun q h => (by cases h), (fun f h => by cases h), (aAllc ⟨_, rfl, (rF_b (r := 2437) (by decide) rfl).mpr q0⟩ (fun f h => by cases h))⟩, [], List.mem_cons_self, fun f h => (by cases h)⟩
theorem rw_rvRp {K : Nat → Nat} {n : Nat} {JX : (Nat → jcell) → Prop} : aGho (rF K n) fa_T K n JX ag_rvRp := by
  refine aGho_of ⟨rfl, rfl⟩ ?_
  intro p σ ρ hH hX hA hM0
  have hG := aAG_of hA.1 (fun i e v he hv => (hA.2 i e v he hv).1)
  clear hA
  obtain ⟨v0, v1, v2, v3, v4, v5, rfl, g0, g1, g2, g3, g4, g5⟩ := rA_6 hG
  clear hG
  obtain ⟨x0, rfl, b0, d0⟩ := rG_ref (by decide) g0
  obtain ⟨x1, rfl, b1, d1⟩ := aG_int g1
  dsimp only at b1 d1
  obtain ⟨x2, rfl, b2, d2⟩ := aG_int g2
  dsimp only at b2 d2
  obtain ⟨x3, rfl, b3, d3⟩ := aG_int g3
  dsimp only at b3 d3
  obtain ⟨x4, rfl⟩ := aG_lng g4
  obtain ⟨x5, rfl, b5, d5⟩ := aG_int g5
  dsimp only at b5 d5
  obtain ⟨m1, m2, m3, m4⟩ := hM0
  obtain ⟨M, hM⟩ := rMe_ex hH b0 d0
  have l0 : 0 ≤ (1 * x5.toInt + (-1 * x3.toInt + 0)) + -1 := by
    obtain ⟨z, e6, e7⟩ := m3 ([(5, 1), (3, -1)], -1) (List.mem_of_getElem? (i := 0) rfl)
    obtain rfl : (1 * x5.toInt + (-1 * x3.toInt + 0)) = z := Option.some.inj (show some (1 * x5.toInt + (-1 * x3.toInt + 0)) = some z from e6)
    exact e7
  have l1 : 0 ≤ (-1 * x5.toInt + (1 * x3.toInt + 0)) + 1 := by
    obtain ⟨z, e6, e7⟩ := m3 ([(5, -1), (3, 1)], 1) (List.mem_of_getElem? (i := 1) rfl)
    obtain rfl : (-1 * x5.toInt + (1 * x3.toInt + 0)) = z := Option.some.inj (show some (-1 * x5.toInt + (1 * x3.toInt + 0)) = some z from e6)
    exact e7
  have f0 : rB K n p 152 [rR x0, rI x1, rI x2, rI x3, rL x4] σ := by
    obtain ⟨w, e6, e7⟩ := m4 (2437, [0, 1, 2, 3, 4]) (List.mem_of_getElem? (i := 0) rfl)
    obtain rfl : [rR x0, rI x1, rI x2, rI x3, rL x4] = w := Option.some.inj (show some [rR x0, rI x1, rI x2, rI x3, rL x4] = some w from e6)
    exact (rF_b (r := 2437) (by decide) rfl).mp e7
  obtain ⟨M9, h9, f0⟩ := ro_152.mp f0
  obtain rfl := rMg_u hM h9
  clear h9
  clear m1 m2 m3 m4
  have q0 : rB K n p 149 [rR x0, rI x1, rI x2, rI x5, rL x4] σ := ro_149.mpr ⟨_, hM, by
    exact ⟨f0.1, fun u h1 h2 => by rw [f0.2 u h1 h2, show x5.toInt = x3.toInt + 1 by omega]⟩⟩
  exact ⟨p, fun _ => rfl, ⟨(fun q h => by cases h), fun q h => (by cases h), (fun f h => by cases h), (aAllc ⟨_, rfl, (rF_b (r := 2389) (by decide) rfl).mpr q0⟩ (fun f h => by cases h))⟩, [], List.mem_cons_self, fun f h => (by cases h)⟩
theorem rw_rvRE {K : Nat → Nat} {n : Nat} {JX : (Nat → jcell) → Prop} : aGho (rF K n) fa_T K n JX ag_rvRE := by
  refine aGho_of ⟨rfl, rfl⟩ ?_
  intro p σ ρ hH hX hA hM0
  have hG := aAG_of hA.1 (fun i e v he hv => (hA.2 i e v he hv).1)
  clear hA
  obtain ⟨v0, v1, v2, v3, v4, rfl, g0, g1, g2, g3, g4⟩ := rA_5 hG
  clear hG
  obtain ⟨x0, rfl, b0, d0⟩ := rG_ref (by decide) g0
  obtain ⟨x1, rfl, b1, d1⟩ := aG_int g1
  dsimp only at b1 d1
  obtain ⟨x2, rfl, b2, d2⟩ := aG_int g2
  dsimp only at b2 d2
  obtain ⟨x3, rfl, b3, d3⟩ := aG_int g3
  dsimp only at b3 d3
  obtain ⟨x4, rfl⟩ := aG_lng g4
  obtain ⟨m1, m2, m3, m4⟩ := hM0
  obtain ⟨M, hM⟩ := rMe_ex hH b0 d0
  have f0 : rB K n p 149 [rR x0, rI x1, rI x2, rI x3, rL x4] σ := by
    obtain ⟨w, e6, e7⟩ := m4 (2389, [0, 1, 2, 3, 4]) (List.mem_of_getElem? (i := 0) rfl)
    obtain rfl : [rR x0, rI x1, rI x2, rI x3, rL x4] = w := Option.some.inj (show some [rR x0, rI x1, rI x2, rI x3, rL x4] = some w from e6)
    exact (rF_b (r := 2389) (by decide) rfl).mp e7
  obtain ⟨M9, h9, f0⟩ := ro_149.mp f0
  obtain rfl := rMg_u hM h9
  clear h9
  clear m1 m2 m3 m4
  have q0 : rB K n p 153 [rR x0, rI x1, rL x4] σ := ro_153.mpr ⟨_, hM, by
    intro u h1 h2
    rw [f0.2 u h1 h2, ← f0.1]
    unfold rRe
    constructor
    · rintro ⟨f, r, h3, h4, h5, h6, h7⟩
      exact ⟨f, r, h3, by omega, h5, h6, h7⟩
    · rintro ⟨f, r, h3, h4, h5, h6, h7⟩
      exact ⟨f, r, h3, by omega, h5, h6, h7⟩⟩
  exact ⟨p, fun _ => rfl, ⟨(fun q h => by cases h), fun q h => (by cases h), (fun f h => by cases h), (aAllc ⟨_, rfl, (rF_b (r := 2451) (by decide) rfl).mpr q0⟩ (fun f h => by cases h))⟩, [], List.mem_cons_self, fun f h => (by cases h)⟩

