/-! rules of uP -/
theorem rw_rqE {N : Int} {K : Nat → Nat} {n : Nat} {JX : (Nat → jcell) → Prop} : aGho (rH N K n) fa_T K n JX ag_rqE := by
  refine aGho_of ⟨rfl, rfl⟩ ?_
  intro p σ ρ hH hX hA hM0
  have hG := aAG_of hA.1 (fun i e v he hv => (hA.2 i e v he hv).1)
  clear hA
  obtain ⟨v0, v1, rfl, g0, g1⟩ := rA_2 hG
  clear hG
  obtain ⟨x0, rfl⟩ := aG_lng g0
  obtain ⟨x1, rfl, b1, d1⟩ := aG_int g1
  dsimp only at b1 d1
  obtain ⟨m1, m2, m3, m4⟩ := hM0
  have f0 : rB3 N K n p 496 [rL x0, rI x1] σ := by
    obtain ⟨w, e6, e7⟩ := m4 (7938, [0, 1]) (List.mem_of_getElem? (i := 0) rfl)
    obtain rfl : [rL x0, rI x1] = w := Option.some.inj (show some [rL x0, rI x1] = some w from e6)
    exact (rF_b (r := 7938) (by decide) rfl).mp e7
  have f0 := ro3_496.mp f0
  clear m1 m2 m3 m4
  have r0 : 0 ≤ (1 * x0.toInt + 0) + -1 := by
    rcases f0 with f0 | ⟨-, -, f0⟩
    · omega
    · have h1 := rqT (x1.toInt - 1).toNat (by omega)
      omega
  exact ⟨p, fun _ => rfl, ⟨(fun q h => by cases h), fun q h => (by cases h), (aAllc ⟨_, rfl, r0⟩ (fun f h => by cases h)), (fun f h => by cases h)⟩, [], List.mem_cons_self, fun f h => (by cases h)⟩

