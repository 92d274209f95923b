/-! tables and layouts are kept by stores -/
theorem fJX_jx {K : Nat → Nat} {n : Nat} : aJx K n fa_Pk (fJX K n) := by
  intro σ a ha hX
  obtain ⟨x1, x2, x3, x4⟩ := hX
  refine ⟨fun x hk => ⟨fun b hb hkb => ?_, fun b hb hkb => ?_, fun b hb hkb => ?_, fun b hb hkb => ?_⟩, fun c fs f u v hs hu hru hrv => ⟨fun b hb hkb => ?_, fun b hb hkb => ?_, fun b hb hkb => ?_, fun b hb hkb => ?_⟩⟩
  · have e : b ≠ a := fun e => hk (by rw [← e, hkb]; decide)
    rw [jup_n e]
    exact x1 b hb hkb
  · have e : b ≠ a := fun e => hk (by rw [← e, hkb]; decide)
    rw [jup_n e]
    exact x2 b hb hkb
  · have e : b ≠ a := fun e => hk (by rw [← e, hkb]; decide)
    obtain ⟨n0, k1, k2, k3, gs, k4, k5⟩ := x3 b hb hkb
    exact ⟨n0, k1, k2, k3, gs, by rw [jup_n e]; exact k4, k5⟩
  · have e : b ≠ a := fun e => hk (by rw [← e, hkb]; decide)
    rw [jup_n e]
    exact x4 b hb hkb
  · have e : b ≠ a := fun e => by
      obtain ⟨g, h, -⟩ := x1 b hb hkb
      rw [e, hs] at h
      cases h
    rw [jup_n e]
    exact x1 b hb hkb
  · have e : b ≠ a := fun e => by
      obtain ⟨g, h, -⟩ := x2 b hb hkb
      rw [e, hs] at h
      cases h
    rw [jup_n e]
    exact x2 b hb hkb
  · obtain ⟨n0, k1, k2, k3, gs, k4, y0, y1, y7, y8, y9, y10, y11, y12, y13, y14, y15⟩ := x3 b hb hkb
    by_cases e : b = a
    · subst e
      rw [hs] at k4
      cases k4
      have key : ∀ (i r : Nat), fs[i]? = some (fR r) → (fs.set f v)[i]? = some (fR r) := fun i r h => by
        rw [List.getElem?_set_ne (fun (e : f = i) => hru (by
          rw [e, h] at hu
          exact ⟨some (.inl r), (Option.some.inj hu).symm⟩))]
        exact h
      exact ⟨n0, k1, k2, k3, fs.set f v, jup_s, key _ _ y0, key _ _ y1, key _ _ y7, key _ _ y8, key _ _ y9, key _ _ y10, key _ _ y11, key _ _ y12, key _ _ y13, key _ _ y14, key _ _ y15⟩
    · exact ⟨n0, k1, k2, k3, gs, by rw [jup_n e]; exact k4, y0, y1, y7, y8, y9, y10, y11, y12, y13, y14, y15⟩
  · have e : b ≠ a := fun e => by
      obtain ⟨g, h, -⟩ := x4 b hb hkb
      rw [e, hs] at h
      cases h
    rw [jup_n e]
    exact x4 b hb hkb

