/-! the reference: what the facts of the second table look at -/
theorem rs_237 {K : Nat → Nat} {n : Nat} {vs : List jv} {j : Nat} {σ σ' : Nat → jcell} (h : ∀ a, a < n → ∀ q ∈ ra_dep.getD 237 [], q.1 = K a → aSm vs q (σ a) (σ' a)) (hb : rb_237 K n (vs.take j) σ) : rb_237 K n (vs.take j) σ' := by
  have m0 : ((62, [32, 33], none) : aDe) ∈ ra_dep.getD 237 [] := List.mem_of_getElem? (i := 0) rfl
  have m1 : ((85, [], none) : aDe) ∈ ra_dep.getD 237 [] := List.mem_of_getElem? (i := 1) rfl
  obtain ⟨a0, a1, a2, hl, hb⟩ := rC_rii_e hb
  rw [hl]
  have hb : a2.toInt = 1 → ∃ g c, rRo K n σ a0 62 32 85 2048 g ∧ rOb K n σ a0 62 33 (rI c) ∧ ∃ j, 0 ≤ j ∧ j < c.toInt ∧ (g j.toNat).toInt = a1.toInt := hb
  have r9 : a2.toInt = 1 → ∃ g c, rRo K n σ' a0 62 32 85 2048 g ∧ rOb K n σ' a0 62 33 (rI c) ∧ ∃ j, 0 ≤ j ∧ j < c.toInt ∧ (g j.toNat).toInt = a1.toInt := by
    intro h9
    obtain ⟨g, c, r, o1, j⟩ := hb h9
    exact ⟨g, c, (rRo_st h m0 (by decide) m1 r), (rOb_st h m0 (by decide) o1), j⟩
  exact r9
theorem rs_238 {K : Nat → Nat} {n : Nat} {vs : List jv} {j : Nat} {σ σ' : Nat → jcell} (h : ∀ a, a < n → ∀ q ∈ ra_dep.getD 238 [], q.1 = K a → aSm vs q (σ a) (σ' a)) (hb : rb_238 K n (vs.take j) σ) : rb_238 K n (vs.take j) σ' := by
  have m0 : ((62, [7, 8, 9, 10, 11, 16, 17], none) : aDe) ∈ ra_dep.getD 238 [] := List.mem_of_getElem? (i := 0) rfl
  have m1 : ((65, [], none) : aDe) ∈ ra_dep.getD 238 [] := List.mem_of_getElem? (i := 1) rfl
  have m2 : ((66, [], none) : aDe) ∈ ra_dep.getD 238 [] := List.mem_of_getElem? (i := 2) rfl
  have m3 : ((67, [], none) : aDe) ∈ ra_dep.getD 238 [] := List.mem_of_getElem? (i := 3) rfl
  have m4 : ((68, [], none) : aDe) ∈ ra_dep.getD 238 [] := List.mem_of_getElem? (i := 4) rfl
  have m5 : ((69, [], none) : aDe) ∈ ra_dep.getD 238 [] := List.mem_of_getElem? (i := 5) rfl
  have m6 : ((74, [], none) : aDe) ∈ ra_dep.getD 238 [] := List.mem_of_getElem? (i := 6) rfl
  have m7 : ((75, [], none) : aDe) ∈ ra_dep.getD 238 [] := List.mem_of_getElem? (i := 7) rfl
  obtain ⟨a0, a1, a2, hl, hb⟩ := rC_rii_e hb
  rw [hl]
  obtain ⟨C, y, h1, h2⟩ := hb
  exact ⟨C, y, (rTY_st h m0 (by decide) (by decide) m1 m2 m3 m4 m5 m6 m7 h1), h2⟩
theorem rs_241 {K : Nat → Nat} {n : Nat} {vs : List jv} {j : Nat} {σ σ' : Nat → jcell} (h : ∀ a, a < n → ∀ q ∈ ra_dep.getD 241 [], q.1 = K a → aSm vs q (σ a) (σ' a)) (hb : rb_241 K n (vs.take j) σ) : rb_241 K n (vs.take j) σ' := by
  have m0 : ((62, [7, 8, 9, 10, 11, 16, 17], none) : aDe) ∈ ra_dep.getD 241 [] := List.mem_of_getElem? (i := 0) rfl
  have m1 : ((65, [], none) : aDe) ∈ ra_dep.getD 241 [] := List.mem_of_getElem? (i := 1) rfl
  have m2 : ((66, [], none) : aDe) ∈ ra_dep.getD 241 [] := List.mem_of_getElem? (i := 2) rfl
  have m3 : ((67, [], none) : aDe) ∈ ra_dep.getD 241 [] := List.mem_of_getElem? (i := 3) rfl
  have m4 : ((68, [], none) : aDe) ∈ ra_dep.getD 241 [] := List.mem_of_getElem? (i := 4) rfl
  have m5 : ((69, [], none) : aDe) ∈ ra_dep.getD 241 [] := List.mem_of_getElem? (i := 5) rfl
  have m6 : ((74, [], none) : aDe) ∈ ra_dep.getD 241 [] := List.mem_of_getElem? (i := 6) rfl
  have m7 : ((75, [], none) : aDe) ∈ ra_dep.getD 241 [] := List.mem_of_getElem? (i := 7) rfl
  obtain ⟨a0, a1, a2, hl, hb⟩ := rC_rii_e hb
  rw [hl]
  obtain ⟨C, y, h1, h2⟩ := hb
  exact ⟨C, y, (rTY_st h m0 (by decide) (by decide) m1 m2 m3 m4 m5 m6 m7 h1), h2⟩
theorem rs_242 {K : Nat → Nat} {n : Nat} {vs : List jv} {j : Nat} {σ σ' : Nat → jcell} (h : ∀ a, a < n → ∀ q ∈ ra_dep.getD 242 [], q.1 = K a → aSm vs q (σ a) (σ' a)) (hb : rb_242 K n (vs.take j) σ) : rb_242 K n (vs.take j) σ' := by
  have m0 : ((62, [7, 8, 9, 10, 11, 16, 17], none) : aDe) ∈ ra_dep.getD 242 [] := List.mem_of_getElem? (i := 0) rfl
  have m1 : ((65, [], none) : aDe) ∈ ra_dep.getD 242 [] := List.mem_of_getElem? (i := 1) rfl
  have m2 : ((66, [], none) : aDe) ∈ ra_dep.getD 242 [] := List.mem_of_getElem? (i := 2) rfl
  have m3 : ((67, [], none) : aDe) ∈ ra_dep.getD 242 [] := List.mem_of_getElem? (i := 3) rfl
  have m4 : ((68, [], none) : aDe) ∈ ra_dep.getD 242 [] := List.mem_of_getElem? (i := 4) rfl
  have m5 : ((69, [], none) : aDe) ∈ ra_dep.getD 242 [] := List.mem_of_getElem? (i := 5) rfl
  have m6 : ((74, [], none) : aDe) ∈ ra_dep.getD 242 [] := List.mem_of_getElem? (i := 6) rfl
  have m7 : ((75, [], none) : aDe) ∈ ra_dep.getD 242 [] := List.mem_of_getElem? (i := 7) rfl
  obtain ⟨a0, a1, a2, a3, hl, hb⟩ := rC_riii_e hb
  rw [hl]
  obtain ⟨C, y, h1, h2⟩ := hb
  exact ⟨C, y, (rTY_st h m0 (by decide) (by decide) m1 m2 m3 m4 m5 m6 m7 h1), h2⟩
theorem rs_243 {K : Nat → Nat} {n : Nat} {vs : List jv} {j : Nat} {σ σ' : Nat → jcell} (h : ∀ a, a < n → ∀ q ∈ ra_dep.getD 243 [], q.1 = K a → aSm vs q (σ a) (σ' a)) (hb : rb_243 K n (vs.take j) σ) : rb_243 K n (vs.take j) σ' := by
  have m0 : ((62, [7, 8, 9, 10, 11, 16, 17], none) : aDe) ∈ ra_dep.getD 243 [] := List.mem_of_getElem? (i := 0) rfl
  have m1 : ((65, [], none) : aDe) ∈ ra_dep.getD 243 [] := List.mem_of_getElem? (i := 1) rfl
  have m2 : ((66, [], none) : aDe) ∈ ra_dep.getD 243 [] := List.mem_of_getElem? (i := 2) rfl
  have m3 : ((67, [], none) : aDe) ∈ ra_dep.getD 243 [] := List.mem_of_getElem? (i := 3) rfl
  have m4 : ((68, [], none) : aDe) ∈ ra_dep.getD 243 [] := List.mem_of_getElem? (i := 4) rfl
  have m5 : ((69, [], none) : aDe) ∈ ra_dep.getD 243 [] := List.mem_of_getElem? (i := 5) rfl
  have m6 : ((74, [], none) : aDe) ∈ ra_dep.getD 243 [] := List.mem_of_getElem? (i := 6) rfl
  have m7 : ((75, [], none) : aDe) ∈ ra_dep.getD 243 [] := List.mem_of_getElem? (i := 7) rfl
  obtain ⟨a0, a1, a2, a3, hl, hb⟩ := rC_riii_e hb
  rw [hl]
  obtain ⟨C, y, h1, h2⟩ := hb
  exact ⟨C, y, (rTY_st h m0 (by decide) (by decide) m1 m2 m3 m4 m5 m6 m7 h1), h2⟩
theorem rs_245 {K : Nat → Nat} {n : Nat} {vs : List jv} {j : Nat} {σ σ' : Nat → jcell} (h : ∀ a, a < n → ∀ q ∈ ra_dep.getD 245 [], q.1 = K a → aSm vs q (σ a) (σ' a)) (hb : rb_245 K n (vs.take j) σ) : rb_245 K n (vs.take j) σ' := by
  have m0 : ((62, [8, 9, 16, 17], none) : aDe) ∈ ra_dep.getD 245 [] := List.mem_of_getElem? (i := 0) rfl
  have m1 : ((66, [], none) : aDe) ∈ ra_dep.getD 245 [] := List.mem_of_getElem? (i := 1) rfl
  have m2 : ((67, [], none) : aDe) ∈ ra_dep.getD 245 [] := List.mem_of_getElem? (i := 2) rfl
  have m3 : ((74, [], none) : aDe) ∈ ra_dep.getD 245 [] := List.mem_of_getElem? (i := 3) rfl
  have m4 : ((75, [], none) : aDe) ∈ ra_dep.getD 245 [] := List.mem_of_getElem? (i := 4) rfl
  have m5 : ((62, [24, 25, 26, 27], none) : aDe) ∈ ra_dep.getD 245 [] := List.mem_of_getElem? (i := 5) rfl
  have m6 : ((82, [], none) : aDe) ∈ ra_dep.getD 245 [] := List.mem_of_getElem? (i := 6) rfl
  have m7 : ((62, [32, 33, 29], none) : aDe) ∈ ra_dep.getD 245 [] := List.mem_of_getElem? (i := 7) rfl
  have m8 : ((85, [], none) : aDe) ∈ ra_dep.getD 245 [] := List.mem_of_getElem? (i := 8) rfl
  obtain ⟨a0, a1, a2, hl, hb⟩ := rC_rii_e hb
  rw [hl]
  have hb : rSL9 K n σ a0 a1.toInt a2.toInt := hb
  have r9 : rSL9 K n σ' a0 a1.toInt a2.toInt := by
    obtain ⟨pa, mo, q0, z, c, v, p1, p2, p3, ⟨h1, ⟨v1, o1, e1⟩, ⟨v2, o2, e2⟩, ⟨v3, o3, e3⟩⟩, p5, ⟨p6, p7, g, p8, p9⟩, p10, p11, p12⟩ := hb
    exact ⟨pa, mo, q0, z, c, v, rRy9_st h m0 (by decide) m1 p1, rRy9_st h m0 (by decide) m2 p2, rSt9_st h m0 (by decide) (by decide) m3 m4 p3, ⟨(rMg_st h m5 (by decide) m6 h1), ⟨v1, (rOb_st h m5 (by decide) o1), e1⟩, ⟨v2, (rOb_st h m5 (by decide) o2), e2⟩, ⟨v3, (rOb_st h m5 (by decide) o3), e3⟩⟩, p5, ⟨(rOb_st h m7 (by decide) p6), p7, g, (rRo_st h m7 (by decide) m8 p8), p9⟩, (rOb_st h m7 (by decide) p10), p11, p12⟩
  exact r9
theorem rs_246 {K : Nat → Nat} {n : Nat} {vs : List jv} {j : Nat} {σ σ' : Nat → jcell} (h : ∀ a, a < n → ∀ q ∈ ra_dep.getD 246 [], q.1 = K a → aSm vs q (σ a) (σ' a)) (hb : rb_246 K n (vs.take j) σ) : rb_246 K n (vs.take j) σ' := by
  have m0 : ((62, [7, 8, 9, 10, 11, 16, 17], none) : aDe) ∈ ra_dep.getD 246 [] := List.mem_of_getElem? (i := 0) rfl
  have m1 : ((65, [], none) : aDe) ∈ ra_dep.getD 246 [] := List.mem_of_getElem? (i := 1) rfl
  have m2 : ((66, [], none) : aDe) ∈ ra_dep.getD 246 [] := List.mem_of_getElem? (i := 2) rfl
  have m3 : ((67, [], none) : aDe) ∈ ra_dep.getD 246 [] := List.mem_of_getElem? (i := 3) rfl
  have m4 : ((68, [], none) : aDe) ∈ ra_dep.getD 246 [] := List.mem_of_getElem? (i := 4) rfl
  have m5 : ((69, [], none) : aDe) ∈ ra_dep.getD 246 [] := List.mem_of_getElem? (i := 5) rfl
  have m6 : ((74, [], none) : aDe) ∈ ra_dep.getD 246 [] := List.mem_of_getElem? (i := 6) rfl
  have m7 : ((75, [], none) : aDe) ∈ ra_dep.getD 246 [] := List.mem_of_getElem? (i := 7) rfl
  have m8 : ((62, [34], none) : aDe) ∈ ra_dep.getD 246 [] := List.mem_of_getElem? (i := 8) rfl
  have m9 : ((86, [], some ([(3, 1)], 0)) : aDe) ∈ ra_dep.getD 246 [] := List.mem_of_getElem? (i := 9) rfl
  obtain ⟨a0, a1, a2, a3, a4, hl, hb⟩ := rC_riiii_e hb
  rw [hl]
  have hb : ∃ C y, rTY K n σ a0 a1.toInt C y ∧ 0 ≤ a2.toInt ∧ a2.toInt ≤ C ∧ 0 ≤ a3.toInt ∧ rPth K n σ a0 y a2.toInt a3.toInt ∧ a4.toInt = rUa y.1 a3.toInt.toNat a2.toInt ∧ 0 ≤ a4.toInt ∧ a4.toInt ≤ C := hb
  have r9 : ∃ C y, rTY K n σ' a0 a1.toInt C y ∧ 0 ≤ a2.toInt ∧ a2.toInt ≤ C ∧ 0 ≤ a3.toInt ∧ rPth K n σ' a0 y a2.toInt a3.toInt ∧ a4.toInt = rUa y.1 a3.toInt.toNat a2.toInt ∧ 0 ≤ a4.toInt ∧ a4.toInt ≤ C := by
    obtain ⟨C, y, hY, k1, k2, k3, ⟨g, r, k4⟩, k5⟩ := hb
    obtain ⟨n1g, n1, n1e⟩ := rRo_sb h m8 (by decide) m9 (b := (1 * a3.toInt + 0)) (fun x hx => rVa1 (x := a3) hx (rTak (j := j) (by rw [hl]; rfl))) r
    exact ⟨C, y, (rTY_st h m0 (by decide) (by decide) m1 m2 m3 m4 m5 m6 m7 hY), k1, k2, k3, ⟨n1g, n1, fun i i0 i1 => by rw [n1e _ (by omega)]; exact k4 i i0 i1⟩, k5⟩
  exact r9
theorem rs_247 {K : Nat → Nat} {n : Nat} {vs : List jv} {j : Nat} {σ σ' : Nat → jcell} (h : ∀ a, a < n → ∀ q ∈ ra_dep.getD 247 [], q.1 = K a → aSm vs q (σ a) (σ' a)) (hb : rb_247 K n (vs.take j) σ) : rb_247 K n (vs.take j) σ' := by
  have m0 : ((62, [7, 8, 9, 10, 11, 16, 17], none) : aDe) ∈ ra_dep.getD 247 [] := List.mem_of_getElem? (i := 0) rfl
  have m1 : ((65, [], none) : aDe) ∈ ra_dep.getD 247 [] := List.mem_of_getElem? (i := 1) rfl
  have m2 : ((66, [], none) : aDe) ∈ ra_dep.getD 247 [] := List.mem_of_getElem? (i := 2) rfl
  have m3 : ((67, [], none) : aDe) ∈ ra_dep.getD 247 [] := List.mem_of_getElem? (i := 3) rfl
  have m4 : ((68, [], none) : aDe) ∈ ra_dep.getD 247 [] := List.mem_of_getElem? (i := 4) rfl
  have m5 : ((69, [], none) : aDe) ∈ ra_dep.getD 247 [] := List.mem_of_getElem? (i := 5) rfl
  have m6 : ((74, [], none) : aDe) ∈ ra_dep.getD 247 [] := List.mem_of_getElem? (i := 6) rfl
  have m7 : ((75, [], none) : aDe) ∈ ra_dep.getD 247 [] := List.mem_of_getElem? (i := 7) rfl
  have m8 : ((62, [34], none) : aDe) ∈ ra_dep.getD 247 [] := List.mem_of_getElem? (i := 8) rfl
  have m9 : ((86, [], some ([(3, 1)], 1)) : aDe) ∈ ra_dep.getD 247 [] := List.mem_of_getElem? (i := 9) rfl
  obtain ⟨a0, a1, a2, a3, a4, hl, hb⟩ := rC_riiii_e hb
  rw [hl]
  have hb : ∃ C y, rTY K n σ a0 a1.toInt C y ∧ 0 ≤ a2.toInt ∧ a2.toInt ≤ C ∧ 0 ≤ a3.toInt ∧ rPth K n σ a0 y a2.toInt (a3.toInt + 1) ∧ a4.toInt = rUa y.1 a3.toInt.toNat a2.toInt ∧ 1 ≤ a4.toInt ∧ a4.toInt ≤ C := hb
  have r9 : ∃ C y, rTY K n σ' a0 a1.toInt C y ∧ 0 ≤ a2.toInt ∧ a2.toInt ≤ C ∧ 0 ≤ a3.toInt ∧ rPth K n σ' a0 y a2.toInt (a3.toInt + 1) ∧ a4.toInt = rUa y.1 a3.toInt.toNat a2.toInt ∧ 1 ≤ a4.toInt ∧ a4.toInt ≤ C := by
    obtain ⟨C, y, hY, k1, k2, k3, ⟨g, r, k4⟩, k5⟩ := hb
    obtain ⟨n1g, n1, n1e⟩ := rRo_sb h m8 (by decide) m9 (b := (1 * a3.toInt + 1)) (fun x hx => rVa1 (x := a3) hx (rTak (j := j) (by rw [hl]; rfl))) r
    exact ⟨C, y, (rTY_st h m0 (by decide) (by decide) m1 m2 m3 m4 m5 m6 m7 hY), k1, k2, k3, ⟨n1g, n1, fun i i0 i1 => by rw [n1e _ (by omega)]; exact k4 i i0 i1⟩, k5⟩
  exact r9
theorem rs_248 {K : Nat → Nat} {n : Nat} {vs : List jv} {j : Nat} {σ σ' : Nat → jcell} (h : ∀ a, a < n → ∀ q ∈ ra_dep.getD 248 [], q.1 = K a → aSm vs q (σ a) (σ' a)) (hb : rb_248 K n (vs.take j) σ) : rb_248 K n (vs.take j) σ' := by
  have m0 : ((62, [24, 16], none) : aDe) ∈ ra_dep.getD 248 [] := List.mem_of_getElem? (i := 0) rfl
  have m1 : ((74, [], none) : aDe) ∈ ra_dep.getD 248 [] := List.mem_of_getElem? (i := 1) rfl
  have m2 : ((82, [], some ([(2, 1)], 0)) : aDe) ∈ ra_dep.getD 248 [] := List.mem_of_getElem? (i := 2) rfl
  obtain ⟨a0, a1, a2, hl, hb⟩ := rC_rii_e hb
  rw [hl]
  have hb : 0 ≤ a1.toInt ∧ ∃ g5 gm, rRo K n σ a0 62 16 74 128 g5 ∧ rRo K n σ a0 62 24 82 64 gm ∧ ∀ j, 0 ≤ j → j < a2.toInt → j ≤ 63 → (gm j.toNat).toInt = (g5 (64 * a1.toInt + j).toNat).toInt := hb
  have r9 : 0 ≤ a1.toInt ∧ ∃ g5 gm, rRo K n σ' a0 62 16 74 128 g5 ∧ rRo K n σ' a0 62 24 82 64 gm ∧ ∀ j, 0 ≤ j → j < a2.toInt → j ≤ 63 → (gm j.toNat).toInt = (g5 (64 * a1.toInt + j).toNat).toInt := by
    obtain ⟨k0, g5, gm, r5, rm, kk⟩ := hb
    obtain ⟨n1g, n1, n1e⟩ := rRo_sb h m0 (by decide) m2 (b := (1 * a2.toInt + 0)) (fun x hx => rVa1 (x := a2) hx (rTak (j := j) (by rw [hl]; rfl))) rm
    exact ⟨k0, g5, n1g, (rRo_st h m0 (by decide) m1 r5), n1, fun j j0 j1 j2 => by rw [n1e _ (by omega)]; exact kk j j0 j1 j2⟩
  exact r9
theorem rs_249 {K : Nat → Nat} {n : Nat} {vs : List jv} {j : Nat} {σ σ' : Nat → jcell} (h : ∀ a, a < n → ∀ q ∈ ra_dep.getD 249 [], q.1 = K a → aSm vs q (σ a) (σ' a)) (hb : rb_249 K n (vs.take j) σ) : rb_249 K n (vs.take j) σ' := by
  have m0 : ((62, [24, 16], none) : aDe) ∈ ra_dep.getD 249 [] := List.mem_of_getElem? (i := 0) rfl
  have m1 : ((74, [], none) : aDe) ∈ ra_dep.getD 249 [] := List.mem_of_getElem? (i := 1) rfl
  have m2 : ((82, [], some ([(2, 1)], 1)) : aDe) ∈ ra_dep.getD 249 [] := List.mem_of_getElem? (i := 2) rfl
  obtain ⟨a0, a1, a2, hl, hb⟩ := rC_rii_e hb
  rw [hl]
  have hb : 0 ≤ a1.toInt ∧ ∃ g5 gm, rRo K n σ a0 62 16 74 128 g5 ∧ rRo K n σ a0 62 24 82 64 gm ∧ ∀ j, 0 ≤ j → j < a2.toInt + 1 → j ≤ 63 → (gm j.toNat).toInt = (g5 (64 * a1.toInt + j).toNat).toInt := hb
  have r9 : 0 ≤ a1.toInt ∧ ∃ g5 gm, rRo K n σ' a0 62 16 74 128 g5 ∧ rRo K n σ' a0 62 24 82 64 gm ∧ ∀ j, 0 ≤ j → j < a2.toInt + 1 → j ≤ 63 → (gm j.toNat).toInt = (g5 (64 * a1.toInt + j).toNat).toInt := by
    obtain ⟨k0, g5, gm, r5, rm, kk⟩ := hb
    obtain ⟨n1g, n1, n1e⟩ := rRo_sb h m0 (by decide) m2 (b := (1 * a2.toInt + 1)) (fun x hx => rVa1 (x := a2) hx (rTak (j := j) (by rw [hl]; rfl))) rm
    exact ⟨k0, g5, n1g, (rRo_st h m0 (by decide) m1 r5), n1, fun j j0 j1 j2 => by rw [n1e _ (by omega)]; exact kk j j0 j1 j2⟩
  exact r9
theorem rs_250 {K : Nat → Nat} {n : Nat} {vs : List jv} {j : Nat} {σ σ' : Nat → jcell} (h : ∀ a, a < n → ∀ q ∈ ra_dep.getD 250 [], q.1 = K a → aSm vs q (σ a) (σ' a)) (hb : rb_250 K n (vs.take j) σ) : rb_250 K n (vs.take j) σ' := by
  have m0 : ((62, [7, 8, 9, 10, 11, 16, 17], none) : aDe) ∈ ra_dep.getD 250 [] := List.mem_of_getElem? (i := 0) rfl
  have m1 : ((65, [], none) : aDe) ∈ ra_dep.getD 250 [] := List.mem_of_getElem? (i := 1) rfl
  have m2 : ((66, [], none) : aDe) ∈ ra_dep.getD 250 [] := List.mem_of_getElem? (i := 2) rfl
  have m3 : ((67, [], none) : aDe) ∈ ra_dep.getD 250 [] := List.mem_of_getElem? (i := 3) rfl
  have m4 : ((68, [], none) : aDe) ∈ ra_dep.getD 250 [] := List.mem_of_getElem? (i := 4) rfl
  have m5 : ((69, [], none) : aDe) ∈ ra_dep.getD 250 [] := List.mem_of_getElem? (i := 5) rfl
  have m6 : ((74, [], none) : aDe) ∈ ra_dep.getD 250 [] := List.mem_of_getElem? (i := 6) rfl
  have m7 : ((75, [], none) : aDe) ∈ ra_dep.getD 250 [] := List.mem_of_getElem? (i := 7) rfl
  have m8 : ((62, [24, 25, 26, 27], none) : aDe) ∈ ra_dep.getD 250 [] := List.mem_of_getElem? (i := 8) rfl
  have m9 : ((82, [], none) : aDe) ∈ ra_dep.getD 250 [] := List.mem_of_getElem? (i := 9) rfl
  have m10 : ((62, [34], none) : aDe) ∈ ra_dep.getD 250 [] := List.mem_of_getElem? (i := 10) rfl
  have m11 : ((86, [], none) : aDe) ∈ ra_dep.getD 250 [] := List.mem_of_getElem? (i := 11) rfl
  obtain ⟨a0, a1, a2, a3, a4, hl, hb⟩ := rC_riiii_e hb
  rw [hl]
  have hb : ∃ C y, rTY K n σ a0 a1.toInt C y ∧ 0 ≤ a2.toInt ∧ a2.toInt ≤ C ∧ 0 ≤ a3.toInt ∧ rPth K n σ a0 y a2.toInt a3.toInt ∧ rUa y.1 a3.toInt.toNat a2.toInt = 0 ∧ -1 ≤ a4.toInt ∧ a4.toInt < a3.toInt ∧ rTX K n σ a0 (rPo y (rUa y.1 (a4.toInt + 1).toNat a2.toInt)) := hb
  have r9 : ∃ C y, rTY K n σ' a0 a1.toInt C y ∧ 0 ≤ a2.toInt ∧ a2.toInt ≤ C ∧ 0 ≤ a3.toInt ∧ rPth K n σ' a0 y a2.toInt a3.toInt ∧ rUa y.1 a3.toInt.toNat a2.toInt = 0 ∧ -1 ≤ a4.toInt ∧ a4.toInt < a3.toInt ∧ rTX K n σ' a0 (rPo y (rUa y.1 (a4.toInt + 1).toNat a2.toInt)) := by
    obtain ⟨C, y, hY, k1, k2, k3, ⟨g, r, k4⟩, k5, k6, k7, ⟨h1, ⟨v1, o1, e1⟩, ⟨v2, o2, e2⟩, ⟨v3, o3, e3⟩⟩⟩ := hb
    exact ⟨C, y, (rTY_st h m0 (by decide) (by decide) m1 m2 m3 m4 m5 m6 m7 hY), k1, k2, k3, ⟨g, (rRo_st h m10 (by decide) m11 r), k4⟩, k5, k6, k7, ⟨(rMg_st h m8 (by decide) m9 h1), ⟨v1, (rOb_st h m8 (by decide) o1), e1⟩, ⟨v2, (rOb_st h m8 (by decide) o2), e2⟩, ⟨v3, (rOb_st h m8 (by decide) o3), e3⟩⟩⟩
  exact r9
theorem rs_251 {K : Nat → Nat} {n : Nat} {vs : List jv} {j : Nat} {σ σ' : Nat → jcell} (h : ∀ a, a < n → ∀ q ∈ ra_dep.getD 251 [], q.1 = K a → aSm vs q (σ a) (σ' a)) (hb : rb_251 K n (vs.take j) σ) : rb_251 K n (vs.take j) σ' := by
  have m0 : ((62, [7, 8, 9, 10, 11, 16, 17], none) : aDe) ∈ ra_dep.getD 251 [] := List.mem_of_getElem? (i := 0) rfl
  have m1 : ((65, [], none) : aDe) ∈ ra_dep.getD 251 [] := List.mem_of_getElem? (i := 1) rfl
  have m2 : ((66, [], none) : aDe) ∈ ra_dep.getD 251 [] := List.mem_of_getElem? (i := 2) rfl
  have m3 : ((67, [], none) : aDe) ∈ ra_dep.getD 251 [] := List.mem_of_getElem? (i := 3) rfl
  have m4 : ((68, [], none) : aDe) ∈ ra_dep.getD 251 [] := List.mem_of_getElem? (i := 4) rfl
  have m5 : ((69, [], none) : aDe) ∈ ra_dep.getD 251 [] := List.mem_of_getElem? (i := 5) rfl
  have m6 : ((74, [], none) : aDe) ∈ ra_dep.getD 251 [] := List.mem_of_getElem? (i := 6) rfl
  have m7 : ((75, [], none) : aDe) ∈ ra_dep.getD 251 [] := List.mem_of_getElem? (i := 7) rfl
  have m8 : ((62, [24, 25, 26, 27], none) : aDe) ∈ ra_dep.getD 251 [] := List.mem_of_getElem? (i := 8) rfl
  have m9 : ((82, [], none) : aDe) ∈ ra_dep.getD 251 [] := List.mem_of_getElem? (i := 9) rfl
  have m10 : ((62, [34], none) : aDe) ∈ ra_dep.getD 251 [] := List.mem_of_getElem? (i := 10) rfl
  have m11 : ((86, [], none) : aDe) ∈ ra_dep.getD 251 [] := List.mem_of_getElem? (i := 11) rfl
  obtain ⟨a0, a1, a2, a3, a4, hl, hb⟩ := rC_riiii_e hb
  rw [hl]
  have hb : ∃ C y, rTY K n σ a0 a1.toInt C y ∧ 0 ≤ a2.toInt ∧ a2.toInt ≤ C ∧ 0 ≤ a3.toInt ∧ rPth K n σ a0 y a2.toInt a3.toInt ∧ rUa y.1 a3.toInt.toNat a2.toInt = 0 ∧ 0 ≤ a4.toInt ∧ a4.toInt < a3.toInt ∧ rTX K n σ a0 (rPo y (rUa y.1 a4.toInt.toNat a2.toInt)) := hb
  have r9 : ∃ C y, rTY K n σ' a0 a1.toInt C y ∧ 0 ≤ a2.toInt ∧ a2.toInt ≤ C ∧ 0 ≤ a3.toInt ∧ rPth K n σ' a0 y a2.toInt a3.toInt ∧ rUa y.1 a3.toInt.toNat a2.toInt = 0 ∧ 0 ≤ a4.toInt ∧ a4.toInt < a3.toInt ∧ rTX K n σ' a0 (rPo y (rUa y.1 a4.toInt.toNat a2.toInt)) := by
    obtain ⟨C, y, hY, k1, k2, k3, ⟨g, r, k4⟩, k5, k6, k7, ⟨h1, ⟨v1, o1, e1⟩, ⟨v2, o2, e2⟩, ⟨v3, o3, e3⟩⟩⟩ := hb
    exact ⟨C, y, (rTY_st h m0 (by decide) (by decide) m1 m2 m3 m4 m5 m6 m7 hY), k1, k2, k3, ⟨g, (rRo_st h m10 (by decide) m11 r), k4⟩, k5, k6, k7, ⟨(rMg_st h m8 (by decide) m9 h1), ⟨v1, (rOb_st h m8 (by decide) o1), e1⟩, ⟨v2, (rOb_st h m8 (by decide) o2), e2⟩, ⟨v3, (rOb_st h m8 (by decide) o3), e3⟩⟩⟩
  exact r9
theorem rs_252 {K : Nat → Nat} {n : Nat} {vs : List jv} {j : Nat} {σ σ' : Nat → jcell} (h : ∀ a, a < n → ∀ q ∈ ra_dep.getD 252 [], q.1 = K a → aSm vs q (σ a) (σ' a)) (hb : rb_252 K n (vs.take j) σ) : rb_252 K n (vs.take j) σ' := by
  have m0 : ((62, [7, 8, 9, 10, 11, 16, 17], none) : aDe) ∈ ra_dep.getD 252 [] := List.mem_of_getElem? (i := 0) rfl
  have m1 : ((65, [], none) : aDe) ∈ ra_dep.getD 252 [] := List.mem_of_getElem? (i := 1) rfl
  have m2 : ((66, [], none) : aDe) ∈ ra_dep.getD 252 [] := List.mem_of_getElem? (i := 2) rfl
  have m3 : ((67, [], none) : aDe) ∈ ra_dep.getD 252 [] := List.mem_of_getElem? (i := 3) rfl
  have m4 : ((68, [], none) : aDe) ∈ ra_dep.getD 252 [] := List.mem_of_getElem? (i := 4) rfl
  have m5 : ((69, [], none) : aDe) ∈ ra_dep.getD 252 [] := List.mem_of_getElem? (i := 5) rfl
  have m6 : ((74, [], none) : aDe) ∈ ra_dep.getD 252 [] := List.mem_of_getElem? (i := 6) rfl
  have m7 : ((75, [], none) : aDe) ∈ ra_dep.getD 252 [] := List.mem_of_getElem? (i := 7) rfl
  have m8 : ((62, [34], none) : aDe) ∈ ra_dep.getD 252 [] := List.mem_of_getElem? (i := 8) rfl
  have m9 : ((86, [], none) : aDe) ∈ ra_dep.getD 252 [] := List.mem_of_getElem? (i := 9) rfl
  obtain ⟨a0, a1, a2, a3, a4, hl, hb⟩ := rC_riiii_e hb
  rw [hl]
  have hb : ∃ C y, rTY K n σ a0 a1.toInt C y ∧ 0 ≤ a2.toInt ∧ a2.toInt ≤ C ∧ 0 ≤ a3.toInt ∧ rPth K n σ a0 y a2.toInt a3.toInt ∧ rUa y.1 a3.toInt.toNat a2.toInt = 0 := hb
  have r9 : ∃ C y, rTY K n σ' a0 a1.toInt C y ∧ 0 ≤ a2.toInt ∧ a2.toInt ≤ C ∧ 0 ≤ a3.toInt ∧ rPth K n σ' a0 y a2.toInt a3.toInt ∧ rUa y.1 a3.toInt.toNat a2.toInt = 0 := by
    obtain ⟨C, y, hY, k1, k2, k3, ⟨g, r, k4⟩, k5⟩ := hb
    exact ⟨C, y, (rTY_st h m0 (by decide) (by decide) m1 m2 m3 m4 m5 m6 m7 hY), k1, k2, k3, ⟨g, (rRo_st h m8 (by decide) m9 r), k4⟩, k5⟩
  exact r9
theorem rs_253 {K : Nat → Nat} {n : Nat} {vs : List jv} {j : Nat} {σ σ' : Nat → jcell} (h : ∀ a, a < n → ∀ q ∈ ra_dep.getD 253 [], q.1 = K a → aSm vs q (σ a) (σ' a)) (hb : rb_253 K n (vs.take j) σ) : rb_253 K n (vs.take j) σ' := by
  have m0 : ((62, [7, 8, 9, 10, 11, 16, 17], none) : aDe) ∈ ra_dep.getD 253 [] := List.mem_of_getElem? (i := 0) rfl
  have m1 : ((65, [], none) : aDe) ∈ ra_dep.getD 253 [] := List.mem_of_getElem? (i := 1) rfl
  have m2 : ((66, [], none) : aDe) ∈ ra_dep.getD 253 [] := List.mem_of_getElem? (i := 2) rfl
  have m3 : ((67, [], none) : aDe) ∈ ra_dep.getD 253 [] := List.mem_of_getElem? (i := 3) rfl
  have m4 : ((68, [], none) : aDe) ∈ ra_dep.getD 253 [] := List.mem_of_getElem? (i := 4) rfl
  have m5 : ((69, [], none) : aDe) ∈ ra_dep.getD 253 [] := List.mem_of_getElem? (i := 5) rfl
  have m6 : ((74, [], none) : aDe) ∈ ra_dep.getD 253 [] := List.mem_of_getElem? (i := 6) rfl
  have m7 : ((75, [], none) : aDe) ∈ ra_dep.getD 253 [] := List.mem_of_getElem? (i := 7) rfl
  obtain ⟨a0, a1, a2, hl, hb⟩ := rC_rii_e hb
  rw [hl]
  obtain ⟨C, y, h1, h2⟩ := hb
  exact ⟨C, y, (rTY_st h m0 (by decide) (by decide) m1 m2 m3 m4 m5 m6 m7 h1), h2⟩
theorem rs_254 {K : Nat → Nat} {n : Nat} {vs : List jv} {j : Nat} {σ σ' : Nat → jcell} (h : ∀ a, a < n → ∀ q ∈ ra_dep.getD 254 [], q.1 = K a → aSm vs q (σ a) (σ' a)) (hb : rb_254 K n (vs.take j) σ) : rb_254 K n (vs.take j) σ' := by
  have m0 : ((62, [7, 8, 9, 10, 11, 16, 17], none) : aDe) ∈ ra_dep.getD 254 [] := List.mem_of_getElem? (i := 0) rfl
  have m1 : ((65, [], none) : aDe) ∈ ra_dep.getD 254 [] := List.mem_of_getElem? (i := 1) rfl
  have m2 : ((66, [], none) : aDe) ∈ ra_dep.getD 254 [] := List.mem_of_getElem? (i := 2) rfl
  have m3 : ((67, [], none) : aDe) ∈ ra_dep.getD 254 [] := List.mem_of_getElem? (i := 3) rfl
  have m4 : ((68, [], none) : aDe) ∈ ra_dep.getD 254 [] := List.mem_of_getElem? (i := 4) rfl
  have m5 : ((69, [], none) : aDe) ∈ ra_dep.getD 254 [] := List.mem_of_getElem? (i := 5) rfl
  have m6 : ((74, [], none) : aDe) ∈ ra_dep.getD 254 [] := List.mem_of_getElem? (i := 6) rfl
  have m7 : ((75, [], none) : aDe) ∈ ra_dep.getD 254 [] := List.mem_of_getElem? (i := 7) rfl
  obtain ⟨a0, a1, a2, hl, hb⟩ := rC_rii_e hb
  rw [hl]
  obtain ⟨C, y, h1, h2⟩ := hb
  exact ⟨C, y, (rTY_st h m0 (by decide) (by decide) m1 m2 m3 m4 m5 m6 m7 h1), h2⟩
theorem rs_255 {K : Nat → Nat} {n : Nat} {vs : List jv} {j : Nat} {σ σ' : Nat → jcell} (h : ∀ a, a < n → ∀ q ∈ ra_dep.getD 255 [], q.1 = K a → aSm vs q (σ a) (σ' a)) (hb : rb_255 K n (vs.take j) σ) : rb_255 K n (vs.take j) σ' := by
  have m0 : ((62, [7, 8, 9, 10, 11, 16, 17], none) : aDe) ∈ ra_dep.getD 255 [] := List.mem_of_getElem? (i := 0) rfl
  have m1 : ((65, [], none) : aDe) ∈ ra_dep.getD 255 [] := List.mem_of_getElem? (i := 1) rfl
  have m2 : ((66, [], none) : aDe) ∈ ra_dep.getD 255 [] := List.mem_of_getElem? (i := 2) rfl
  have m3 : ((67, [], none) : aDe) ∈ ra_dep.getD 255 [] := List.mem_of_getElem? (i := 3) rfl
  have m4 : ((68, [], none) : aDe) ∈ ra_dep.getD 255 [] := List.mem_of_getElem? (i := 4) rfl
  have m5 : ((69, [], none) : aDe) ∈ ra_dep.getD 255 [] := List.mem_of_getElem? (i := 5) rfl
  have m6 : ((74, [], none) : aDe) ∈ ra_dep.getD 255 [] := List.mem_of_getElem? (i := 6) rfl
  have m7 : ((75, [], none) : aDe) ∈ ra_dep.getD 255 [] := List.mem_of_getElem? (i := 7) rfl
  obtain ⟨a0, a1, a2, hl, hb⟩ := rC_rii_e hb
  rw [hl]
  obtain ⟨C, y, h1, h2⟩ := hb
  exact ⟨C, y, (rTY_st h m0 (by decide) (by decide) m1 m2 m3 m4 m5 m6 m7 h1), h2⟩
theorem rs_256 {K : Nat → Nat} {n : Nat} {vs : List jv} {j : Nat} {σ σ' : Nat → jcell} (h : ∀ a, a < n → ∀ q ∈ ra_dep.getD 256 [], q.1 = K a → aSm vs q (σ a) (σ' a)) (hb : rb_256 K n (vs.take j) σ) : rb_256 K n (vs.take j) σ' := by
  have m0 : ((62, [10], none) : aDe) ∈ ra_dep.getD 256 [] := List.mem_of_getElem? (i := 0) rfl
  have m1 : ((68, [], some ([(1, 1)], 1)) : aDe) ∈ ra_dep.getD 256 [] := List.mem_of_getElem? (i := 1) rfl
  obtain ⟨a0, a1, hl, hb⟩ := rC_ri_e hb
  rw [hl]
  have hb : 0 ≤ a1.toInt ∧ ∃ g, rRo K n σ a0 62 10 68 602 g ∧ (g a1.toInt.toNat).toInt = -1 := hb
  have r9 : 0 ≤ a1.toInt ∧ ∃ g, rRo K n σ' a0 62 10 68 602 g ∧ (g a1.toInt.toNat).toInt = -1 := by
    obtain ⟨k0, g, r, e⟩ := hb
    obtain ⟨n1g, n1, n1e⟩ := rRo_sb h m0 (by decide) m1 (b := (1 * a1.toInt + 1)) (fun x hx => rVa1 (x := a1) hx (rTak (j := j) (by rw [hl]; rfl))) r
    exact ⟨k0, n1g, n1, by rw [n1e _ (by omega)]; exact e⟩
  exact r9
theorem rs_257 {K : Nat → Nat} {n : Nat} {vs : List jv} {j : Nat} {σ σ' : Nat → jcell} (h : ∀ a, a < n → ∀ q ∈ ra_dep.getD 257 [], q.1 = K a → aSm vs q (σ a) (σ' a)) (hb : rb_257 K n (vs.take j) σ) : rb_257 K n (vs.take j) σ' := by
  have m0 : ((62, [11], none) : aDe) ∈ ra_dep.getD 257 [] := List.mem_of_getElem? (i := 0) rfl
  have m1 : ((69, [], some ([(1, 1)], 1)) : aDe) ∈ ra_dep.getD 257 [] := List.mem_of_getElem? (i := 1) rfl
  obtain ⟨a0, a1, hl, hb⟩ := rC_ri_e hb
  rw [hl]
  have hb : 0 ≤ a1.toInt ∧ ∃ g, rRo K n σ a0 62 11 69 602 g ∧ (g a1.toInt.toNat).toInt = -1 := hb
  have r9 : 0 ≤ a1.toInt ∧ ∃ g, rRo K n σ' a0 62 11 69 602 g ∧ (g a1.toInt.toNat).toInt = -1 := by
    obtain ⟨k0, g, r, e⟩ := hb
    obtain ⟨n1g, n1, n1e⟩ := rRo_sb h m0 (by decide) m1 (b := (1 * a1.toInt + 1)) (fun x hx => rVa1 (x := a1) hx (rTak (j := j) (by rw [hl]; rfl))) r
    exact ⟨k0, n1g, n1, by rw [n1e _ (by omega)]; exact e⟩
  exact r9
theorem rs_258 {K : Nat → Nat} {n : Nat} {vs : List jv} {j : Nat} {σ σ' : Nat → jcell} (h : ∀ a, a < n → ∀ q ∈ ra_dep.getD 258 [], q.1 = K a → aSm vs q (σ a) (σ' a)) (hb : rb_258 K n (vs.take j) σ) : rb_258 K n (vs.take j) σ' := by
  have m0 : ((62, [8, 9, 10, 11, 16, 17], none) : aDe) ∈ ra_dep.getD 258 [] := List.mem_of_getElem? (i := 0) rfl
  have m1 : ((74, [], none) : aDe) ∈ ra_dep.getD 258 [] := List.mem_of_getElem? (i := 1) rfl
  have m2 : ((75, [], none) : aDe) ∈ ra_dep.getD 258 [] := List.mem_of_getElem? (i := 2) rfl
  have m3 : ((66, [], some ([(1, 301), (4, 1)], 0)) : aDe) ∈ ra_dep.getD 258 [] := List.mem_of_getElem? (i := 3) rfl
  have m4 : ((67, [], some ([(1, 301), (4, 1)], 0)) : aDe) ∈ ra_dep.getD 258 [] := List.mem_of_getElem? (i := 4) rfl
  have m5 : ((68, [], some ([(1, 301), (4, 1)], 0)) : aDe) ∈ ra_dep.getD 258 [] := List.mem_of_getElem? (i := 5) rfl
  have m6 : ((69, [], some ([(1, 301), (4, 1)], 0)) : aDe) ∈ ra_dep.getD 258 [] := List.mem_of_getElem? (i := 6) rfl
  obtain ⟨a0, a1, a2, a3, a4, hl, hb⟩ := rC_riiii_e hb
  rw [hl]
  have hb : ∃ y, rTy K n σ a0 a1.toInt y ∧ 0 ≤ a1.toInt ∧ 1 ≤ a4.toInt ∧ a4.toInt ≤ 300 ∧ rTr (a4.toInt - 1) y ∧ 0 ≤ a2.toInt ∧ a2.toInt ≤ a4.toInt - 1 ∧ rLm (rPo y a2.toInt) a3.toInt ∧ rGd (rMk (rPo y a2.toInt) a3.toInt) := hb
  have r9 : ∃ y, rTy K n σ' a0 a1.toInt y ∧ 0 ≤ a1.toInt ∧ 1 ≤ a4.toInt ∧ a4.toInt ≤ 300 ∧ rTr (a4.toInt - 1) y ∧ 0 ≤ a2.toInt ∧ a2.toInt ≤ a4.toInt - 1 ∧ rLm (rPo y a2.toInt) a3.toInt ∧ rGd (rMk (rPo y a2.toInt) a3.toInt) := by
    obtain ⟨y, hT, q1, q2, q3, q4, q5, q6, q7, q8⟩ := hb
    obtain ⟨y9, i9, j9, e9⟩ := rTy_sb h m0 (by decide) m1 m2 m3 m4 m5 m6 (b := (301 * a1.toInt + 1 * a4.toInt + 0)) (fun x hx => rVa2 (x := a1) (x' := a4) hx (rTak (j := j) (by rw [hl]; rfl)) (rTak (j := j) (by rw [hl]; rfl))) hT
    obtain ⟨t1, t2⟩ := rTr_cg (y' := y9) q4 (fun k k0 k1 => (j9 k (by omega) (by omega)).1) (fun k k0 k1 => (j9 k (by omega) (by omega)).2.1) (fun k k0 k1 => (j9 k (by omega) (by omega)).2.2.1) (fun k k0 k1 => (j9 k (by omega) (by omega)).2.2.2) e9
    exact ⟨y9, i9, q1, q2, q3, t1, q5, q6, by rw [t2 _ q6]; exact q7, by rw [t2 _ q6]; exact q8⟩
  exact r9
theorem rs_259 {K : Nat → Nat} {n : Nat} {vs : List jv} {j : Nat} {σ σ' : Nat → jcell} (h : ∀ a, a < n → ∀ q ∈ ra_dep.getD 259 [], q.1 = K a → aSm vs q (σ a) (σ' a)) (hb : rb_259 K n (vs.take j) σ) : rb_259 K n (vs.take j) σ' := by
  have m0 : ((62, [8], none) : aDe) ∈ ra_dep.getD 259 [] := List.mem_of_getElem? (i := 0) rfl
  have m1 : ((66, [], some ([(1, 301), (2, 1)], 1)) : aDe) ∈ ra_dep.getD 259 [] := List.mem_of_getElem? (i := 1) rfl
  obtain ⟨a0, a1, a2, a3, hl, hb⟩ := rC_riii_e hb
  rw [hl]
  have hb : 0 ≤ 301 * a1.toInt + a2.toInt ∧ ∃ g, rRo K n σ a0 62 8 66 602 g ∧ (g (301 * a1.toInt + a2.toInt).toNat).toInt = a3.toInt := hb
  have r9 : 0 ≤ 301 * a1.toInt + a2.toInt ∧ ∃ g, rRo K n σ' a0 62 8 66 602 g ∧ (g (301 * a1.toInt + a2.toInt).toNat).toInt = a3.toInt := by
    obtain ⟨k0, g, r, e⟩ := hb
    obtain ⟨n1g, n1, n1e⟩ := rRo_sb h m0 (by decide) m1 (b := (301 * a1.toInt + 1 * a2.toInt + 1)) (fun x hx => rVa2 (x := a1) (x' := a2) hx (rTak (j := j) (by rw [hl]; rfl)) (rTak (j := j) (by rw [hl]; rfl))) r
    exact ⟨k0, n1g, n1, by rw [n1e _ (by omega)]; exact e⟩
  exact r9
theorem rs_260 {K : Nat → Nat} {n : Nat} {vs : List jv} {j : Nat} {σ σ' : Nat → jcell} (h : ∀ a, a < n → ∀ q ∈ ra_dep.getD 260 [], q.1 = K a → aSm vs q (σ a) (σ' a)) (hb : rb_260 K n (vs.take j) σ) : rb_260 K n (vs.take j) σ' := by
  have m0 : ((62, [9], none) : aDe) ∈ ra_dep.getD 260 [] := List.mem_of_getElem? (i := 0) rfl
  have m1 : ((67, [], some ([(1, 301), (2, 1)], 1)) : aDe) ∈ ra_dep.getD 260 [] := List.mem_of_getElem? (i := 1) rfl
  obtain ⟨a0, a1, a2, a3, hl, hb⟩ := rC_riii_e hb
  rw [hl]
  have hb : 0 ≤ 301 * a1.toInt + a2.toInt ∧ ∃ g, rRo K n σ a0 62 9 67 602 g ∧ (g (301 * a1.toInt + a2.toInt).toNat).toInt = a3.toInt := hb
  have r9 : 0 ≤ 301 * a1.toInt + a2.toInt ∧ ∃ g, rRo K n σ' a0 62 9 67 602 g ∧ (g (301 * a1.toInt + a2.toInt).toNat).toInt = a3.toInt := by
    obtain ⟨k0, g, r, e⟩ := hb
    obtain ⟨n1g, n1, n1e⟩ := rRo_sb h m0 (by decide) m1 (b := (301 * a1.toInt + 1 * a2.toInt + 1)) (fun x hx => rVa2 (x := a1) (x' := a2) hx (rTak (j := j) (by rw [hl]; rfl)) (rTak (j := j) (by rw [hl]; rfl))) r
    exact ⟨k0, n1g, n1, by rw [n1e _ (by omega)]; exact e⟩
  exact r9
theorem rs_261 {K : Nat → Nat} {n : Nat} {vs : List jv} {j : Nat} {σ σ' : Nat → jcell} (h : ∀ a, a < n → ∀ q ∈ ra_dep.getD 261 [], q.1 = K a → aSm vs q (σ a) (σ' a)) (hb : rb_261 K n (vs.take j) σ) : rb_261 K n (vs.take j) σ' := by
  have m0 : ((62, [8, 9, 10, 11, 16, 17], none) : aDe) ∈ ra_dep.getD 261 [] := List.mem_of_getElem? (i := 0) rfl
  have m1 : ((74, [], none) : aDe) ∈ ra_dep.getD 261 [] := List.mem_of_getElem? (i := 1) rfl
  have m2 : ((75, [], none) : aDe) ∈ ra_dep.getD 261 [] := List.mem_of_getElem? (i := 2) rfl
  have m3 : ((66, [], some ([(1, 301), (2, 1)], 1)) : aDe) ∈ ra_dep.getD 261 [] := List.mem_of_getElem? (i := 3) rfl
  have m4 : ((67, [], some ([(1, 301), (2, 1)], 1)) : aDe) ∈ ra_dep.getD 261 [] := List.mem_of_getElem? (i := 4) rfl
  have m5 : ((68, [], some ([(1, 301), (2, 1)], 1)) : aDe) ∈ ra_dep.getD 261 [] := List.mem_of_getElem? (i := 5) rfl
  have m6 : ((69, [], some ([(1, 301), (2, 1)], 1)) : aDe) ∈ ra_dep.getD 261 [] := List.mem_of_getElem? (i := 6) rfl
  obtain ⟨a0, a1, a2, hl, hb⟩ := rC_rii_e hb
  rw [hl]
  have hb : ∃ y, rTy K n σ a0 a1.toInt y ∧ 0 ≤ a1.toInt ∧ rTr a2.toInt y ∧ 1 ≤ a2.toInt := hb
  have r9 : ∃ y, rTy K n σ' a0 a1.toInt y ∧ 0 ≤ a1.toInt ∧ rTr a2.toInt y ∧ 1 ≤ a2.toInt := by
    obtain ⟨y, hT, q1, q4, q2⟩ := hb
    obtain ⟨y9, i9, j9, e9⟩ := rTy_sb h m0 (by decide) m1 m2 m3 m4 m5 m6 (b := (301 * a1.toInt + 1 * a2.toInt + 1)) (fun x hx => rVa2 (x := a1) (x' := a2) hx (rTak (j := j) (by rw [hl]; rfl)) (rTak (j := j) (by rw [hl]; rfl))) hT
    obtain ⟨t1, t2⟩ := rTr_cg (y' := y9) q4 (fun k k0 k1 => (j9 k (by omega) (by omega)).1) (fun k k0 k1 => (j9 k (by omega) (by omega)).2.1) (fun k k0 k1 => (j9 k (by omega) (by omega)).2.2.1) (fun k k0 k1 => (j9 k (by omega) (by omega)).2.2.2) e9
    exact ⟨y9, i9, q1, t1, q2⟩
  exact r9
theorem rs_262 {K : Nat → Nat} {n : Nat} {vs : List jv} {j : Nat} {σ σ' : Nat → jcell} (h : ∀ a, a < n → ∀ q ∈ ra_dep.getD 262 [], q.1 = K a → aSm vs q (σ a) (σ' a)) (hb : rb_262 K n (vs.take j) σ) : rb_262 K n (vs.take j) σ' := by
  have m0 : ((62, [7], none) : aDe) ∈ ra_dep.getD 262 [] := List.mem_of_getElem? (i := 0) rfl
  have m1 : ((65, [], some ([(1, 1)], 1)) : aDe) ∈ ra_dep.getD 262 [] := List.mem_of_getElem? (i := 1) rfl
  obtain ⟨a0, a1, a2, hl, hb⟩ := rC_rii_e hb
  rw [hl]
  have hb : 0 ≤ a1.toInt ∧ ∃ g, rRo K n σ a0 62 7 65 2 g ∧ (g a1.toInt.toNat).toInt = a2.toInt := hb
  have r9 : 0 ≤ a1.toInt ∧ ∃ g, rRo K n σ' a0 62 7 65 2 g ∧ (g a1.toInt.toNat).toInt = a2.toInt := by
    obtain ⟨k0, g, r, e⟩ := hb
    obtain ⟨n1g, n1, n1e⟩ := rRo_sb h m0 (by decide) m1 (b := (1 * a1.toInt + 1)) (fun x hx => rVa1 (x := a1) hx (rTak (j := j) (by rw [hl]; rfl))) r
    exact ⟨k0, n1g, n1, by rw [n1e _ (by omega)]; exact e⟩
  exact r9
theorem rs_263 {K : Nat → Nat} {n : Nat} {vs : List jv} {j : Nat} {σ σ' : Nat → jcell} (h : ∀ a, a < n → ∀ q ∈ ra_dep.getD 263 [], q.1 = K a → aSm vs q (σ a) (σ' a)) (hb : rb_263 K n (vs.take j) σ) : rb_263 K n (vs.take j) σ' := by
  have m0 : ((62, [8, 9, 10, 11, 16, 17], none) : aDe) ∈ ra_dep.getD 263 [] := List.mem_of_getElem? (i := 0) rfl
  have m1 : ((74, [], none) : aDe) ∈ ra_dep.getD 263 [] := List.mem_of_getElem? (i := 1) rfl
  have m2 : ((75, [], none) : aDe) ∈ ra_dep.getD 263 [] := List.mem_of_getElem? (i := 2) rfl
  have m3 : ((66, [], none) : aDe) ∈ ra_dep.getD 263 [] := List.mem_of_getElem? (i := 3) rfl
  have m4 : ((67, [], none) : aDe) ∈ ra_dep.getD 263 [] := List.mem_of_getElem? (i := 4) rfl
  have m5 : ((68, [], none) : aDe) ∈ ra_dep.getD 263 [] := List.mem_of_getElem? (i := 5) rfl
  have m6 : ((69, [], none) : aDe) ∈ ra_dep.getD 263 [] := List.mem_of_getElem? (i := 6) rfl
  obtain ⟨a0, a1, a2, a3, a4, hl, hb⟩ := rC_riiii_e hb
  rw [hl]
  have hb : ∃ y, rTy K n σ a0 a1.toInt y ∧ ∃ A B, rCn y.2.2.2.1 (y.2.2.1 a2.toInt) (A ++ a3.toInt :: B) ∧ (∀ c ∈ A ++ a3.toInt :: B, 1 ≤ c) ∧ (B.length : Int) = a4.toInt := hb
  have r9 : ∃ y, rTy K n σ' a0 a1.toInt y ∧ ∃ A B, rCn y.2.2.2.1 (y.2.2.1 a2.toInt) (A ++ a3.toInt :: B) ∧ (∀ c ∈ A ++ a3.toInt :: B, 1 ≤ c) ∧ (B.length : Int) = a4.toInt := by
    obtain ⟨y, hT, k1⟩ := hb
    exact ⟨y, rTy_st h m0 (by decide) m3 m4 m5 m6 m1 m2 hT, k1⟩
  exact r9
theorem rs_264 {K : Nat → Nat} {n : Nat} {vs : List jv} {j : Nat} {σ σ' : Nat → jcell} (h : ∀ a, a < n → ∀ q ∈ ra_dep.getD 264 [], q.1 = K a → aSm vs q (σ a) (σ' a)) (hb : rb_264 K n (vs.take j) σ) : rb_264 K n (vs.take j) σ' := by
  have m0 : ((62, [7], none) : aDe) ∈ ra_dep.getD 264 [] := List.mem_of_getElem? (i := 0) rfl
  have m1 : ((65, [], none) : aDe) ∈ ra_dep.getD 264 [] := List.mem_of_getElem? (i := 1) rfl
  obtain ⟨a0, a1, hl, hb⟩ := rC_ri_e hb
  rw [hl]
  have hb : 0 ≤ a1.toInt ∧ ∃ g, rRo K n σ a0 62 7 65 2 g ∧ (g a1.toInt.toNat).toInt ≤ 299 := hb
  have r9 : 0 ≤ a1.toInt ∧ ∃ g, rRo K n σ' a0 62 7 65 2 g ∧ (g a1.toInt.toNat).toInt ≤ 299 := by
    obtain ⟨k0, g, r, e⟩ := hb
    exact ⟨k0, g, (rRo_st h m0 (by decide) m1 r), e⟩
  exact r9
theorem rs_266 {K : Nat → Nat} {n : Nat} {vs : List jv} {j : Nat} {σ σ' : Nat → jcell} (h : ∀ a, a < n → ∀ q ∈ ra_dep.getD 266 [], q.1 = K a → aSm vs q (σ a) (σ' a)) (hb : rb_266 K n (vs.take j) σ) : rb_266 K n (vs.take j) σ' := by
  have m0 : ((62, [7, 8, 9, 10, 11, 16, 17], none) : aDe) ∈ ra_dep.getD 266 [] := List.mem_of_getElem? (i := 0) rfl
  have m1 : ((65, [], none) : aDe) ∈ ra_dep.getD 266 [] := List.mem_of_getElem? (i := 1) rfl
  have m2 : ((66, [], none) : aDe) ∈ ra_dep.getD 266 [] := List.mem_of_getElem? (i := 2) rfl
  have m3 : ((67, [], none) : aDe) ∈ ra_dep.getD 266 [] := List.mem_of_getElem? (i := 3) rfl
  have m4 : ((68, [], none) : aDe) ∈ ra_dep.getD 266 [] := List.mem_of_getElem? (i := 4) rfl
  have m5 : ((69, [], none) : aDe) ∈ ra_dep.getD 266 [] := List.mem_of_getElem? (i := 5) rfl
  have m6 : ((74, [], none) : aDe) ∈ ra_dep.getD 266 [] := List.mem_of_getElem? (i := 6) rfl
  have m7 : ((75, [], none) : aDe) ∈ ra_dep.getD 266 [] := List.mem_of_getElem? (i := 7) rfl
  obtain ⟨a0, a1, a2, a3, hl, hb⟩ := rC_riii_e hb
  rw [hl]
  obtain ⟨C, y, h1, h2⟩ := hb
  exact ⟨C, y, (rTY_st h m0 (by decide) (by decide) m1 m2 m3 m4 m5 m6 m7 h1), h2⟩
theorem rs_270 {K : Nat → Nat} {n : Nat} {vs : List jv} {j : Nat} {σ σ' : Nat → jcell} (h : ∀ a, a < n → ∀ q ∈ ra_dep.getD 270 [], q.1 = K a → aSm vs q (σ a) (σ' a)) (hb : rb_270 K n (vs.take j) σ) : rb_270 K n (vs.take j) σ' := by
  exact hb
theorem rs_271 {K : Nat → Nat} {n : Nat} {vs : List jv} {j : Nat} {σ σ' : Nat → jcell} (h : ∀ a, a < n → ∀ q ∈ ra_dep.getD 271 [], q.1 = K a → aSm vs q (σ a) (σ' a)) (hb : rb_271 K n (vs.take j) σ) : rb_271 K n (vs.take j) σ' := by
  exact hb
theorem rs_276 {K : Nat → Nat} {n : Nat} {vs : List jv} {j : Nat} {σ σ' : Nat → jcell} (h : ∀ a, a < n → ∀ q ∈ ra_dep.getD 276 [], q.1 = K a → aSm vs q (σ a) (σ' a)) (hb : rb_276 K n (vs.take j) σ) : rb_276 K n (vs.take j) σ' := by
  have m0 : ((62, [7, 8, 9, 10, 11, 16, 17], none) : aDe) ∈ ra_dep.getD 276 [] := List.mem_of_getElem? (i := 0) rfl
  have m1 : ((65, [], none) : aDe) ∈ ra_dep.getD 276 [] := List.mem_of_getElem? (i := 1) rfl
  have m2 : ((66, [], none) : aDe) ∈ ra_dep.getD 276 [] := List.mem_of_getElem? (i := 2) rfl
  have m3 : ((67, [], none) : aDe) ∈ ra_dep.getD 276 [] := List.mem_of_getElem? (i := 3) rfl
  have m4 : ((68, [], none) : aDe) ∈ ra_dep.getD 276 [] := List.mem_of_getElem? (i := 4) rfl
  have m5 : ((69, [], none) : aDe) ∈ ra_dep.getD 276 [] := List.mem_of_getElem? (i := 5) rfl
  have m6 : ((74, [], none) : aDe) ∈ ra_dep.getD 276 [] := List.mem_of_getElem? (i := 6) rfl
  have m7 : ((75, [], none) : aDe) ∈ ra_dep.getD 276 [] := List.mem_of_getElem? (i := 7) rfl
  obtain ⟨a0, a1, a2, a3, hl, hb⟩ := rC_riii_e hb
  rw [hl]
  obtain ⟨C, y, h1, h2⟩ := hb
  exact ⟨C, y, (rTY_st h m0 (by decide) (by decide) m1 m2 m3 m4 m5 m6 m7 h1), h2⟩
theorem rs_277 {K : Nat → Nat} {n : Nat} {vs : List jv} {j : Nat} {σ σ' : Nat → jcell} (h : ∀ a, a < n → ∀ q ∈ ra_dep.getD 277 [], q.1 = K a → aSm vs q (σ a) (σ' a)) (hb : rb_277 K n (vs.take j) σ) : rb_277 K n (vs.take j) σ' := by
  have m0 : ((62, [7, 8, 9, 10, 11, 16, 17], none) : aDe) ∈ ra_dep.getD 277 [] := List.mem_of_getElem? (i := 0) rfl
  have m1 : ((65, [], none) : aDe) ∈ ra_dep.getD 277 [] := List.mem_of_getElem? (i := 1) rfl
  have m2 : ((66, [], none) : aDe) ∈ ra_dep.getD 277 [] := List.mem_of_getElem? (i := 2) rfl
  have m3 : ((67, [], none) : aDe) ∈ ra_dep.getD 277 [] := List.mem_of_getElem? (i := 3) rfl
  have m4 : ((68, [], none) : aDe) ∈ ra_dep.getD 277 [] := List.mem_of_getElem? (i := 4) rfl
  have m5 : ((69, [], none) : aDe) ∈ ra_dep.getD 277 [] := List.mem_of_getElem? (i := 5) rfl
  have m6 : ((74, [], none) : aDe) ∈ ra_dep.getD 277 [] := List.mem_of_getElem? (i := 6) rfl
  have m7 : ((75, [], none) : aDe) ∈ ra_dep.getD 277 [] := List.mem_of_getElem? (i := 7) rfl
  obtain ⟨a0, a1, a2, a3, a4, hl, hb⟩ := rC_riiii_e hb
  rw [hl]
  obtain ⟨C, y, h1, h2⟩ := hb
  exact ⟨C, y, (rTY_st h m0 (by decide) (by decide) m1 m2 m3 m4 m5 m6 m7 h1), h2⟩
theorem rs_278 {K : Nat → Nat} {n : Nat} {vs : List jv} {j : Nat} {σ σ' : Nat → jcell} (h : ∀ a, a < n → ∀ q ∈ ra_dep.getD 278 [], q.1 = K a → aSm vs q (σ a) (σ' a)) (hb : rb_278 K n (vs.take j) σ) : rb_278 K n (vs.take j) σ' := by
  have m0 : ((62, [7, 8, 9, 10, 11, 16, 17], none) : aDe) ∈ ra_dep.getD 278 [] := List.mem_of_getElem? (i := 0) rfl
  have m1 : ((65, [], none) : aDe) ∈ ra_dep.getD 278 [] := List.mem_of_getElem? (i := 1) rfl
  have m2 : ((66, [], none) : aDe) ∈ ra_dep.getD 278 [] := List.mem_of_getElem? (i := 2) rfl
  have m3 : ((67, [], none) : aDe) ∈ ra_dep.getD 278 [] := List.mem_of_getElem? (i := 3) rfl
  have m4 : ((68, [], none) : aDe) ∈ ra_dep.getD 278 [] := List.mem_of_getElem? (i := 4) rfl
  have m5 : ((69, [], none) : aDe) ∈ ra_dep.getD 278 [] := List.mem_of_getElem? (i := 5) rfl
  have m6 : ((74, [], none) : aDe) ∈ ra_dep.getD 278 [] := List.mem_of_getElem? (i := 6) rfl
  have m7 : ((75, [], none) : aDe) ∈ ra_dep.getD 278 [] := List.mem_of_getElem? (i := 7) rfl
  obtain ⟨a0, a1, a2, a3, a4, a5, hl, hb⟩ := rC_riiiii_e hb
  rw [hl]
  have hb : ∃ C y nx, rTy K n σ a0 a1.toInt y ∧ rCt9 K n σ a0 a1.toInt C ∧ rTr C (y.1, y.2.1, y.2.2.1, nx, y.2.2.2.2) ∧ 1 ≤ a2.toInt ∧ a2.toInt ≤ C ∧ y.1 a2.toInt = a3.toInt ∧ y.2.2.1 a3.toInt = a4.toInt ∧ ¬ a4.toInt = a2.toInt ∧ (∃ A B, rCn nx (y.2.2.1 a3.toInt) (A ++ a5.toInt :: a2.toInt :: B) ∧ ∀ c ∈ A ++ a5.toInt :: a2.toInt :: B, 1 ≤ c ∧ c ≤ C) ∧ ∀ k, 0 ≤ k → k ≤ C → y.2.2.2.1 k = if k = a5.toInt then nx a2.toInt else nx k := hb
  have r9 : ∃ C y nx, rTy K n σ' a0 a1.toInt y ∧ rCt9 K n σ' a0 a1.toInt C ∧ rTr C (y.1, y.2.1, y.2.2.1, nx, y.2.2.2.2) ∧ 1 ≤ a2.toInt ∧ a2.toInt ≤ C ∧ y.1 a2.toInt = a3.toInt ∧ y.2.2.1 a3.toInt = a4.toInt ∧ ¬ a4.toInt = a2.toInt ∧ (∃ A B, rCn nx (y.2.2.1 a3.toInt) (A ++ a5.toInt :: a2.toInt :: B) ∧ ∀ c ∈ A ++ a5.toInt :: a2.toInt :: B, 1 ≤ c ∧ c ≤ C) ∧ ∀ k, 0 ≤ k → k ≤ C → y.2.2.2.1 k = if k = a5.toInt then nx a2.toInt else nx k := by
    obtain ⟨C, y, nx, hT, ⟨g, r, e⟩, hR⟩ := hb
    exact ⟨C, y, nx, rTy_st h m0 (by decide) m2 m3 m4 m5 m6 m7 hT, ⟨g, rRo_st h m0 (by decide) m1 r, e⟩, hR⟩
  exact r9
theorem rs_279 {K : Nat → Nat} {n : Nat} {vs : List jv} {j : Nat} {σ σ' : Nat → jcell} (h : ∀ a, a < n → ∀ q ∈ ra_dep.getD 279 [], q.1 = K a → aSm vs q (σ a) (σ' a)) (hb : rb_279 K n (vs.take j) σ) : rb_279 K n (vs.take j) σ' := by
  have m0 : ((62, [7, 8, 9, 10, 11, 16, 17], none) : aDe) ∈ ra_dep.getD 279 [] := List.mem_of_getElem? (i := 0) rfl
  have m1 : ((65, [], none) : aDe) ∈ ra_dep.getD 279 [] := List.mem_of_getElem? (i := 1) rfl
  have m2 : ((66, [], none) : aDe) ∈ ra_dep.getD 279 [] := List.mem_of_getElem? (i := 2) rfl
  have m3 : ((67, [], none) : aDe) ∈ ra_dep.getD 279 [] := List.mem_of_getElem? (i := 3) rfl
  have m4 : ((68, [], none) : aDe) ∈ ra_dep.getD 279 [] := List.mem_of_getElem? (i := 4) rfl
  have m5 : ((69, [], none) : aDe) ∈ ra_dep.getD 279 [] := List.mem_of_getElem? (i := 5) rfl
  have m6 : ((74, [], none) : aDe) ∈ ra_dep.getD 279 [] := List.mem_of_getElem? (i := 6) rfl
  have m7 : ((75, [], none) : aDe) ∈ ra_dep.getD 279 [] := List.mem_of_getElem? (i := 7) rfl
  obtain ⟨a0, a1, a2, a3, a4, a5, hl, hb⟩ := rC_riiiii_e hb
  rw [hl]
  have hb : ∃ C y nx, rTy K n σ a0 a1.toInt y ∧ rCt9 K n σ a0 a1.toInt C ∧ rTr C (y.1, y.2.1, y.2.2.1, nx, y.2.2.2.2) ∧ 1 ≤ a2.toInt ∧ a2.toInt ≤ C ∧ y.1 a2.toInt = a3.toInt ∧ y.2.2.1 a3.toInt = a4.toInt ∧ ¬ a4.toInt = a2.toInt ∧ (∃ A B, rCn nx (y.2.2.1 a3.toInt) (A ++ a5.toInt :: a2.toInt :: B) ∧ ∀ c ∈ A ++ a5.toInt :: a2.toInt :: B, 1 ≤ c ∧ c ≤ C) ∧ ∀ k, 0 ≤ k → k ≤ C → y.2.2.2.1 k = if k = a2.toInt then a4.toInt else if k = a5.toInt then nx a2.toInt else nx k := hb
  have r9 : ∃ C y nx, rTy K n σ' a0 a1.toInt y ∧ rCt9 K n σ' a0 a1.toInt C ∧ rTr C (y.1, y.2.1, y.2.2.1, nx, y.2.2.2.2) ∧ 1 ≤ a2.toInt ∧ a2.toInt ≤ C ∧ y.1 a2.toInt = a3.toInt ∧ y.2.2.1 a3.toInt = a4.toInt ∧ ¬ a4.toInt = a2.toInt ∧ (∃ A B, rCn nx (y.2.2.1 a3.toInt) (A ++ a5.toInt :: a2.toInt :: B) ∧ ∀ c ∈ A ++ a5.toInt :: a2.toInt :: B, 1 ≤ c ∧ c ≤ C) ∧ ∀ k, 0 ≤ k → k ≤ C → y.2.2.2.1 k = if k = a2.toInt then a4.toInt else if k = a5.toInt then nx a2.toInt else nx k := by
    obtain ⟨C, y, nx, hT, ⟨g, r, e⟩, hR⟩ := hb
    exact ⟨C, y, nx, rTy_st h m0 (by decide) m2 m3 m4 m5 m6 m7 hT, ⟨g, rRo_st h m0 (by decide) m1 r, e⟩, hR⟩
  exact r9
theorem rs_280 {K : Nat → Nat} {n : Nat} {vs : List jv} {j : Nat} {σ σ' : Nat → jcell} (h : ∀ a, a < n → ∀ q ∈ ra_dep.getD 280 [], q.1 = K a → aSm vs q (σ a) (σ' a)) (hb : rb_280 K n (vs.take j) σ) : rb_280 K n (vs.take j) σ' := by
  have m0 : ((62, [7, 10, 11], none) : aDe) ∈ ra_dep.getD 280 [] := List.mem_of_getElem? (i := 0) rfl
  have m1 : ((65, [], none) : aDe) ∈ ra_dep.getD 280 [] := List.mem_of_getElem? (i := 1) rfl
  have m2 : ((68, [], none) : aDe) ∈ ra_dep.getD 280 [] := List.mem_of_getElem? (i := 2) rfl
  have m3 : ((69, [], none) : aDe) ∈ ra_dep.getD 280 [] := List.mem_of_getElem? (i := 3) rfl
  obtain ⟨a0, a1, hl, hb⟩ := rC_ri_e hb
  rw [hl]
  have hb : 0 ≤ a1.toInt ∧ (∃ g, rRo K n σ a0 62 7 65 2 g ∧ (g a1.toInt.toNat).toInt = 0) ∧ ∃ g, rRo K n σ a0 62 10 68 602 g ∧ (g (301 * a1.toInt).toNat).toInt = -1 := hb
  have r9 : 0 ≤ a1.toInt ∧ (∃ g, rRo K n σ' a0 62 7 65 2 g ∧ (g a1.toInt.toNat).toInt = 0) ∧ ∃ g, rRo K n σ' a0 62 10 68 602 g ∧ (g (301 * a1.toInt).toNat).toInt = -1 := by
    obtain ⟨k0, ⟨g, r, e⟩, g3, r3, e3⟩ := hb
    exact ⟨k0, ⟨g, (rRo_st h m0 (by decide) m1 r), e⟩, g3, (rRo_st h m0 (by decide) m2 r3), e3⟩
  exact r9
theorem rs_281 {K : Nat → Nat} {n : Nat} {vs : List jv} {j : Nat} {σ σ' : Nat → jcell} (h : ∀ a, a < n → ∀ q ∈ ra_dep.getD 281 [], q.1 = K a → aSm vs q (σ a) (σ' a)) (hb : rb_281 K n (vs.take j) σ) : rb_281 K n (vs.take j) σ' := by
  have m0 : ((62, [16, 17], none) : aDe) ∈ ra_dep.getD 281 [] := List.mem_of_getElem? (i := 0) rfl
  have m1 : ((74, [], none) : aDe) ∈ ra_dep.getD 281 [] := List.mem_of_getElem? (i := 1) rfl
  have m2 : ((75, [], none) : aDe) ∈ ra_dep.getD 281 [] := List.mem_of_getElem? (i := 2) rfl
  obtain ⟨a0, a1, hl, hb⟩ := rC_ri_e hb
  rw [hl]
  have hb : ∃ q z, rSt9 K n σ a0 a1.toInt q z ∧ rGd q ∧ 0 ≤ z ∧ z ≤ 999 ∧ 0 ≤ q.2.2.1 ∧ q.2.2.1 ≤ 15 := hb
  have r9 : ∃ q z, rSt9 K n σ' a0 a1.toInt q z ∧ rGd q ∧ 0 ≤ z ∧ z ≤ 999 ∧ 0 ≤ q.2.2.1 ∧ q.2.2.1 ≤ 15 := by
    obtain ⟨q, z, h1, h2⟩ := hb
    exact ⟨q, z, rSt9_st h m0 (by decide) (by decide) m1 m2 h1, h2⟩
  exact r9
theorem rs_282 {K : Nat → Nat} {n : Nat} {vs : List jv} {j : Nat} {σ σ' : Nat → jcell} (h : ∀ a, a < n → ∀ q ∈ ra_dep.getD 282 [], q.1 = K a → aSm vs q (σ a) (σ' a)) (hb : rb_282 K n (vs.take j) σ) : rb_282 K n (vs.take j) σ' := by
  have m0 : ((62, [24, 25, 26, 27], none) : aDe) ∈ ra_dep.getD 282 [] := List.mem_of_getElem? (i := 0) rfl
  have m1 : ((82, [], none) : aDe) ∈ ra_dep.getD 282 [] := List.mem_of_getElem? (i := 1) rfl
  unfold rb_282 at hb
  rcases hb with hb | hb
  · obtain ⟨a0, hl, hb⟩ := rC_r_e hb
    rw [hl]
    have hb : ∃ q, rTX K n σ a0 q ∧ rGd q := hb
    have r9 : ∃ q, rTX K n σ' a0 q ∧ rGd q := by
      obtain ⟨q, ⟨h1, ⟨v1, o1, e1⟩, ⟨v2, o2, e2⟩, ⟨v3, o3, e3⟩⟩, hg⟩ := hb
      exact ⟨q, ⟨(rMg_st h m0 (by decide) m1 h1), ⟨v1, (rOb_st h m0 (by decide) o1), e1⟩, ⟨v2, (rOb_st h m0 (by decide) o2), e2⟩, ⟨v3, (rOb_st h m0 (by decide) o3), e3⟩⟩, hg⟩
    refine Or.inl ?_
    exact r9
  · obtain ⟨a0, a1, hl, hb⟩ := rC_ri_e hb
    rw [hl]
    have hb : a1.toInt = 1 → ∃ q, rTX K n σ a0 q ∧ rGd q := hb
    have r9 : a1.toInt = 1 → ∃ q, rTX K n σ' a0 q ∧ rGd q := by
      intro h9
      obtain ⟨q, ⟨h1, ⟨v1, o1, e1⟩, ⟨v2, o2, e2⟩, ⟨v3, o3, e3⟩⟩, hg⟩ := hb h9
      exact ⟨q, ⟨(rMg_st h m0 (by decide) m1 h1), ⟨v1, (rOb_st h m0 (by decide) o1), e1⟩, ⟨v2, (rOb_st h m0 (by decide) o2), e2⟩, ⟨v3, (rOb_st h m0 (by decide) o3), e3⟩⟩, hg⟩
    refine Or.inr (?_)
    exact r9
theorem rs_283 {K : Nat → Nat} {n : Nat} {vs : List jv} {j : Nat} {σ σ' : Nat → jcell} (h : ∀ a, a < n → ∀ q ∈ ra_dep.getD 283 [], q.1 = K a → aSm vs q (σ a) (σ' a)) (hb : rb_283 K n (vs.take j) σ) : rb_283 K n (vs.take j) σ' := by
  have m0 : ((62, [24, 16], none) : aDe) ∈ ra_dep.getD 283 [] := List.mem_of_getElem? (i := 0) rfl
  have m1 : ((82, [], none) : aDe) ∈ ra_dep.getD 283 [] := List.mem_of_getElem? (i := 1) rfl
  have m2 : ((74, [], some ([(1, 64), (2, 1)], 0)) : aDe) ∈ ra_dep.getD 283 [] := List.mem_of_getElem? (i := 2) rfl
  obtain ⟨a0, a1, a2, hl, hb⟩ := rC_rii_e hb
  rw [hl]
  have hb : 0 ≤ a1.toInt ∧ ∃ g5 gm, rRo K n σ a0 62 16 74 128 g5 ∧ rRo K n σ a0 62 24 82 64 gm ∧ ∀ j, 0 ≤ j → j < a2.toInt → j ≤ 63 → (g5 (64 * a1.toInt + j).toNat).toInt = (gm j.toNat).toInt := hb
  have r9 : 0 ≤ a1.toInt ∧ ∃ g5 gm, rRo K n σ' a0 62 16 74 128 g5 ∧ rRo K n σ' a0 62 24 82 64 gm ∧ ∀ j, 0 ≤ j → j < a2.toInt → j ≤ 63 → (g5 (64 * a1.toInt + j).toNat).toInt = (gm j.toNat).toInt := by
    obtain ⟨k0, g5, gm, r5, rm, kk⟩ := hb
    obtain ⟨n1g, n1, n1e⟩ := rRo_sb h m0 (by decide) m2 (b := (64 * a1.toInt + 1 * a2.toInt + 0)) (fun x hx => rVa2 (x := a1) (x' := a2) hx (rTak (j := j) (by rw [hl]; rfl)) (rTak (j := j) (by rw [hl]; rfl))) r5
    exact ⟨k0, n1g, gm, n1, (rRo_st h m0 (by decide) m1 rm), fun j j0 j1 j2 => by rw [n1e _ (by omega)]; exact kk j j0 j1 j2⟩
  exact r9
theorem rs_284 {K : Nat → Nat} {n : Nat} {vs : List jv} {j : Nat} {σ σ' : Nat → jcell} (h : ∀ a, a < n → ∀ q ∈ ra_dep.getD 284 [], q.1 = K a → aSm vs q (σ a) (σ' a)) (hb : rb_284 K n (vs.take j) σ) : rb_284 K n (vs.take j) σ' := by
  have m0 : ((62, [24, 16], none) : aDe) ∈ ra_dep.getD 284 [] := List.mem_of_getElem? (i := 0) rfl
  have m1 : ((82, [], none) : aDe) ∈ ra_dep.getD 284 [] := List.mem_of_getElem? (i := 1) rfl
  have m2 : ((74, [], some ([(1, 64), (2, 1)], 1)) : aDe) ∈ ra_dep.getD 284 [] := List.mem_of_getElem? (i := 2) rfl
  obtain ⟨a0, a1, a2, hl, hb⟩ := rC_rii_e hb
  rw [hl]
  have hb : 0 ≤ a1.toInt ∧ ∃ g5 gm, rRo K n σ a0 62 16 74 128 g5 ∧ rRo K n σ a0 62 24 82 64 gm ∧ ∀ j, 0 ≤ j → j < a2.toInt + 1 → j ≤ 63 → (g5 (64 * a1.toInt + j).toNat).toInt = (gm j.toNat).toInt := hb
  have r9 : 0 ≤ a1.toInt ∧ ∃ g5 gm, rRo K n σ' a0 62 16 74 128 g5 ∧ rRo K n σ' a0 62 24 82 64 gm ∧ ∀ j, 0 ≤ j → j < a2.toInt + 1 → j ≤ 63 → (g5 (64 * a1.toInt + j).toNat).toInt = (gm j.toNat).toInt := by
    obtain ⟨k0, g5, gm, r5, rm, kk⟩ := hb
    obtain ⟨n1g, n1, n1e⟩ := rRo_sb h m0 (by decide) m2 (b := (64 * a1.toInt + 1 * a2.toInt + 1)) (fun x hx => rVa2 (x := a1) (x' := a2) hx (rTak (j := j) (by rw [hl]; rfl)) (rTak (j := j) (by rw [hl]; rfl))) r5
    exact ⟨k0, n1g, gm, n1, (rRo_st h m0 (by decide) m1 rm), fun j j0 j1 j2 => by rw [n1e _ (by omega)]; exact kk j j0 j1 j2⟩
  exact r9
theorem rs_285 {K : Nat → Nat} {n : Nat} {vs : List jv} {j : Nat} {σ σ' : Nat → jcell} (h : ∀ a, a < n → ∀ q ∈ ra_dep.getD 285 [], q.1 = K a → aSm vs q (σ a) (σ' a)) (hb : rb_285 K n (vs.take j) σ) : rb_285 K n (vs.take j) σ' := by
  have m0 : ((62, [24], none) : aDe) ∈ ra_dep.getD 285 [] := List.mem_of_getElem? (i := 0) rfl
  have m1 : ((82, [], some ([(1, 1)], 0)) : aDe) ∈ ra_dep.getD 285 [] := List.mem_of_getElem? (i := 1) rfl
  obtain ⟨a0, a1, hl, hb⟩ := rC_ri_e hb
  rw [hl]
  have hb : ∃ g, rRo K n σ a0 62 24 82 64 g ∧ ∀ j, 0 ≤ j → j < a1.toInt → j ≤ 63 → (g j.toNat).toInt = 0 := hb
  have r9 : ∃ g, rRo K n σ' a0 62 24 82 64 g ∧ ∀ j, 0 ≤ j → j < a1.toInt → j ≤ 63 → (g j.toNat).toInt = 0 := by
    obtain ⟨g, r, kk⟩ := hb
    obtain ⟨n1g, n1, n1e⟩ := rRo_sb h m0 (by decide) m1 (b := (1 * a1.toInt + 0)) (fun x hx => rVa1 (x := a1) hx (rTak (j := j) (by rw [hl]; rfl))) r
    exact ⟨n1g, n1, fun j j0 j1 j2 => by rw [n1e _ (by omega)]; exact kk j j0 j1 j2⟩
  exact r9
theorem rs_286 {K : Nat → Nat} {n : Nat} {vs : List jv} {j : Nat} {σ σ' : Nat → jcell} (h : ∀ a, a < n → ∀ q ∈ ra_dep.getD 286 [], q.1 = K a → aSm vs q (σ a) (σ' a)) (hb : rb_286 K n (vs.take j) σ) : rb_286 K n (vs.take j) σ' := by
  have m0 : ((62, [24], none) : aDe) ∈ ra_dep.getD 286 [] := List.mem_of_getElem? (i := 0) rfl
  have m1 : ((82, [], some ([(1, 1)], 1)) : aDe) ∈ ra_dep.getD 286 [] := List.mem_of_getElem? (i := 1) rfl
  obtain ⟨a0, a1, hl, hb⟩ := rC_ri_e hb
  rw [hl]
  have hb : ∃ g, rRo K n σ a0 62 24 82 64 g ∧ ∀ j, 0 ≤ j → j < a1.toInt + 1 → j ≤ 63 → (g j.toNat).toInt = 0 := hb
  have r9 : ∃ g, rRo K n σ' a0 62 24 82 64 g ∧ ∀ j, 0 ≤ j → j < a1.toInt + 1 → j ≤ 63 → (g j.toNat).toInt = 0 := by
    obtain ⟨g, r, kk⟩ := hb
    obtain ⟨n1g, n1, n1e⟩ := rRo_sb h m0 (by decide) m1 (b := (1 * a1.toInt + 1)) (fun x hx => rVa1 (x := a1) hx (rTak (j := j) (by rw [hl]; rfl))) r
    exact ⟨n1g, n1, fun j j0 j1 j2 => by rw [n1e _ (by omega)]; exact kk j j0 j1 j2⟩
  exact r9
theorem rs_287 {K : Nat → Nat} {n : Nat} {vs : List jv} {j : Nat} {σ σ' : Nat → jcell} (h : ∀ a, a < n → ∀ q ∈ ra_dep.getD 287 [], q.1 = K a → aSm vs q (σ a) (σ' a)) (hb : rb_287 K n (vs.take j) σ) : rb_287 K n (vs.take j) σ' := by
  have m0 : ((62, [7], none) : aDe) ∈ ra_dep.getD 287 [] := List.mem_of_getElem? (i := 0) rfl
  have m1 : ((65, [], none) : aDe) ∈ ra_dep.getD 287 [] := List.mem_of_getElem? (i := 1) rfl
  obtain ⟨a0, a1, hl, hb⟩ := rC_ri_e hb
  rw [hl]
  have hb : 0 ≤ a1.toInt ∧ ∃ g, rRo K n σ a0 62 7 65 2 g ∧ (g a1.toInt.toNat).toInt = 0 := hb
  have r9 : 0 ≤ a1.toInt ∧ ∃ g, rRo K n σ' a0 62 7 65 2 g ∧ (g a1.toInt.toNat).toInt = 0 := by
    obtain ⟨k0, g, r, e⟩ := hb
    exact ⟨k0, g, (rRo_st h m0 (by decide) m1 r), e⟩
  exact r9
theorem rs_288 {K : Nat → Nat} {n : Nat} {vs : List jv} {j : Nat} {σ σ' : Nat → jcell} (h : ∀ a, a < n → ∀ q ∈ ra_dep.getD 288 [], q.1 = K a → aSm vs q (σ a) (σ' a)) (hb : rb_288 K n (vs.take j) σ) : rb_288 K n (vs.take j) σ' := by
  have m0 : ((62, [17], none) : aDe) ∈ ra_dep.getD 288 [] := List.mem_of_getElem? (i := 0) rfl
  have m1 : ((75, [], some ([(1, 5)], 1)) : aDe) ∈ ra_dep.getD 288 [] := List.mem_of_getElem? (i := 1) rfl
  obtain ⟨a0, a1, a2, hl, hb⟩ := rC_rii_e hb
  rw [hl]
  have hb : 0 ≤ a1.toInt ∧ ∃ g, rRo K n σ a0 62 17 75 10 g ∧ (g (5 * a1.toInt + 0).toNat).toInt = a2.toInt := hb
  have r9 : 0 ≤ a1.toInt ∧ ∃ g, rRo K n σ' a0 62 17 75 10 g ∧ (g (5 * a1.toInt + 0).toNat).toInt = a2.toInt := by
    obtain ⟨k0, g, r, e⟩ := hb
    obtain ⟨n1g, n1, n1e⟩ := rRo_sb h m0 (by decide) m1 (b := (5 * a1.toInt + 1)) (fun x hx => rVa1 (x := a1) hx (rTak (j := j) (by rw [hl]; rfl))) r
    exact ⟨k0, n1g, n1, by rw [n1e _ (by omega)]; exact e⟩
  exact r9
theorem rs_289 {K : Nat → Nat} {n : Nat} {vs : List jv} {j : Nat} {σ σ' : Nat → jcell} (h : ∀ a, a < n → ∀ q ∈ ra_dep.getD 289 [], q.1 = K a → aSm vs q (σ a) (σ' a)) (hb : rb_289 K n (vs.take j) σ) : rb_289 K n (vs.take j) σ' := by
  have m0 : ((62, [17], none) : aDe) ∈ ra_dep.getD 289 [] := List.mem_of_getElem? (i := 0) rfl
  have m1 : ((75, [], some ([(1, 5)], 2)) : aDe) ∈ ra_dep.getD 289 [] := List.mem_of_getElem? (i := 1) rfl
  obtain ⟨a0, a1, a2, hl, hb⟩ := rC_rii_e hb
  rw [hl]
  have hb : 0 ≤ a1.toInt ∧ ∃ g, rRo K n σ a0 62 17 75 10 g ∧ (g (5 * a1.toInt + 1).toNat).toInt = a2.toInt := hb
  have r9 : 0 ≤ a1.toInt ∧ ∃ g, rRo K n σ' a0 62 17 75 10 g ∧ (g (5 * a1.toInt + 1).toNat).toInt = a2.toInt := by
    obtain ⟨k0, g, r, e⟩ := hb
    obtain ⟨n1g, n1, n1e⟩ := rRo_sb h m0 (by decide) m1 (b := (5 * a1.toInt + 2)) (fun x hx => rVa1 (x := a1) hx (rTak (j := j) (by rw [hl]; rfl))) r
    exact ⟨k0, n1g, n1, by rw [n1e _ (by omega)]; exact e⟩
  exact r9
theorem rs_290 {K : Nat → Nat} {n : Nat} {vs : List jv} {j : Nat} {σ σ' : Nat → jcell} (h : ∀ a, a < n → ∀ q ∈ ra_dep.getD 290 [], q.1 = K a → aSm vs q (σ a) (σ' a)) (hb : rb_290 K n (vs.take j) σ) : rb_290 K n (vs.take j) σ' := by
  have m0 : ((62, [17], none) : aDe) ∈ ra_dep.getD 290 [] := List.mem_of_getElem? (i := 0) rfl
  have m1 : ((75, [], some ([(1, 5)], 3)) : aDe) ∈ ra_dep.getD 290 [] := List.mem_of_getElem? (i := 1) rfl
  obtain ⟨a0, a1, a2, hl, hb⟩ := rC_rii_e hb
  rw [hl]
  have hb : 0 ≤ a1.toInt ∧ ∃ g, rRo K n σ a0 62 17 75 10 g ∧ (g (5 * a1.toInt + 2).toNat).toInt = a2.toInt := hb
  have r9 : 0 ≤ a1.toInt ∧ ∃ g, rRo K n σ' a0 62 17 75 10 g ∧ (g (5 * a1.toInt + 2).toNat).toInt = a2.toInt := by
    obtain ⟨k0, g, r, e⟩ := hb
    obtain ⟨n1g, n1, n1e⟩ := rRo_sb h m0 (by decide) m1 (b := (5 * a1.toInt + 3)) (fun x hx => rVa1 (x := a1) hx (rTak (j := j) (by rw [hl]; rfl))) r
    exact ⟨k0, n1g, n1, by rw [n1e _ (by omega)]; exact e⟩
  exact r9
theorem rs_291 {K : Nat → Nat} {n : Nat} {vs : List jv} {j : Nat} {σ σ' : Nat → jcell} (h : ∀ a, a < n → ∀ q ∈ ra_dep.getD 291 [], q.1 = K a → aSm vs q (σ a) (σ' a)) (hb : rb_291 K n (vs.take j) σ) : rb_291 K n (vs.take j) σ' := by
  have m0 : ((62, [17], none) : aDe) ∈ ra_dep.getD 291 [] := List.mem_of_getElem? (i := 0) rfl
  have m1 : ((75, [], some ([(1, 5)], 5)) : aDe) ∈ ra_dep.getD 291 [] := List.mem_of_getElem? (i := 1) rfl
  obtain ⟨a0, a1, a2, hl, hb⟩ := rC_rii_e hb
  rw [hl]
  have hb : 0 ≤ a1.toInt ∧ ∃ g, rRo K n σ a0 62 17 75 10 g ∧ (g (5 * a1.toInt + 4).toNat).toInt = a2.toInt := hb
  have r9 : 0 ≤ a1.toInt ∧ ∃ g, rRo K n σ' a0 62 17 75 10 g ∧ (g (5 * a1.toInt + 4).toNat).toInt = a2.toInt := by
    obtain ⟨k0, g, r, e⟩ := hb
    obtain ⟨n1g, n1, n1e⟩ := rRo_sb h m0 (by decide) m1 (b := (5 * a1.toInt + 5)) (fun x hx => rVa1 (x := a1) hx (rTak (j := j) (by rw [hl]; rfl))) r
    exact ⟨k0, n1g, n1, by rw [n1e _ (by omega)]; exact e⟩
  exact r9
theorem rs_300 {K : Nat → Nat} {n : Nat} {vs : List jv} {j : Nat} {σ σ' : Nat → jcell} (h : ∀ a, a < n → ∀ q ∈ ra_dep.getD 300 [], q.1 = K a → aSm vs q (σ a) (σ' a)) (hb : rb_300 K n (vs.take j) σ) : rb_300 K n (vs.take j) σ' := by
  have m0 : ((62, [24], none) : aDe) ∈ ra_dep.getD 300 [] := List.mem_of_getElem? (i := 0) rfl
  have m1 : ((82, [], none) : aDe) ∈ ra_dep.getD 300 [] := List.mem_of_getElem? (i := 1) rfl
  obtain ⟨a0, hl, hb⟩ := rC_r_e hb
  rw [hl]
  obtain ⟨M, h1, h2⟩ := hb
  exact ⟨M, (rMg_st h m0 (by decide) m1 h1), h2⟩
theorem rs_301 {K : Nat → Nat} {n : Nat} {vs : List jv} {j : Nat} {σ σ' : Nat → jcell} (h : ∀ a, a < n → ∀ q ∈ ra_dep.getD 301 [], q.1 = K a → aSm vs q (σ a) (σ' a)) (hb : rb_301 K n (vs.take j) σ) : rb_301 K n (vs.take j) σ' := by
  have m0 : ((62, [24], none) : aDe) ∈ ra_dep.getD 301 [] := List.mem_of_getElem? (i := 0) rfl
  have m1 : ((82, [], none) : aDe) ∈ ra_dep.getD 301 [] := List.mem_of_getElem? (i := 1) rfl
  obtain ⟨a0, hl, hb⟩ := rC_r_e hb
  rw [hl]
  obtain ⟨M, h1, h2⟩ := hb
  exact ⟨M, (rMg_st h m0 (by decide) m1 h1), h2⟩
theorem rs_302 {K : Nat → Nat} {n : Nat} {vs : List jv} {j : Nat} {σ σ' : Nat → jcell} (h : ∀ a, a < n → ∀ q ∈ ra_dep.getD 302 [], q.1 = K a → aSm vs q (σ a) (σ' a)) (hb : rb_302 K n (vs.take j) σ) : rb_302 K n (vs.take j) σ' := by
  have m0 : ((62, [24], none) : aDe) ∈ ra_dep.getD 302 [] := List.mem_of_getElem? (i := 0) rfl
  have m1 : ((82, [], none) : aDe) ∈ ra_dep.getD 302 [] := List.mem_of_getElem? (i := 1) rfl
  obtain ⟨a0, hl, hb⟩ := rC_r_e hb
  rw [hl]
  obtain ⟨M, h1, h2⟩ := hb
  exact ⟨M, (rMg_st h m0 (by decide) m1 h1), h2⟩
theorem rs_303 {K : Nat → Nat} {n : Nat} {vs : List jv} {j : Nat} {σ σ' : Nat → jcell} (h : ∀ a, a < n → ∀ q ∈ ra_dep.getD 303 [], q.1 = K a → aSm vs q (σ a) (σ' a)) (hb : rb_303 K n (vs.take j) σ) : rb_303 K n (vs.take j) σ' := by
  have m0 : ((62, [24], none) : aDe) ∈ ra_dep.getD 303 [] := List.mem_of_getElem? (i := 0) rfl
  have m1 : ((82, [], none) : aDe) ∈ ra_dep.getD 303 [] := List.mem_of_getElem? (i := 1) rfl
  obtain ⟨a0, hl, hb⟩ := rC_r_e hb
  rw [hl]
  obtain ⟨M, h1, h2⟩ := hb
  exact ⟨M, (rMg_st h m0 (by decide) m1 h1), h2⟩
theorem rs_304 {K : Nat → Nat} {n : Nat} {vs : List jv} {j : Nat} {σ σ' : Nat → jcell} (h : ∀ a, a < n → ∀ q ∈ ra_dep.getD 304 [], q.1 = K a → aSm vs q (σ a) (σ' a)) (hb : rb_304 K n (vs.take j) σ) : rb_304 K n (vs.take j) σ' := by
  have m0 : ((62, [24], none) : aDe) ∈ ra_dep.getD 304 [] := List.mem_of_getElem? (i := 0) rfl
  have m1 : ((82, [], none) : aDe) ∈ ra_dep.getD 304 [] := List.mem_of_getElem? (i := 1) rfl
  obtain ⟨a0, hl, hb⟩ := rC_r_e hb
  rw [hl]
  obtain ⟨M, h1, h2⟩ := hb
  exact ⟨M, (rMg_st h m0 (by decide) m1 h1), h2⟩
theorem rs_305 {K : Nat → Nat} {n : Nat} {vs : List jv} {j : Nat} {σ σ' : Nat → jcell} (h : ∀ a, a < n → ∀ q ∈ ra_dep.getD 305 [], q.1 = K a → aSm vs q (σ a) (σ' a)) (hb : rb_305 K n (vs.take j) σ) : rb_305 K n (vs.take j) σ' := by
  have m0 : ((62, [24], none) : aDe) ∈ ra_dep.getD 305 [] := List.mem_of_getElem? (i := 0) rfl
  have m1 : ((82, [], none) : aDe) ∈ ra_dep.getD 305 [] := List.mem_of_getElem? (i := 1) rfl
  obtain ⟨a0, hl, hb⟩ := rC_r_e hb
  rw [hl]
  obtain ⟨M, h1, h2⟩ := hb
  exact ⟨M, (rMg_st h m0 (by decide) m1 h1), h2⟩
theorem rs_306 {K : Nat → Nat} {n : Nat} {vs : List jv} {j : Nat} {σ σ' : Nat → jcell} (h : ∀ a, a < n → ∀ q ∈ ra_dep.getD 306 [], q.1 = K a → aSm vs q (σ a) (σ' a)) (hb : rb_306 K n (vs.take j) σ) : rb_306 K n (vs.take j) σ' := by
  have m0 : ((62, [24], none) : aDe) ∈ ra_dep.getD 306 [] := List.mem_of_getElem? (i := 0) rfl
  have m1 : ((82, [], none) : aDe) ∈ ra_dep.getD 306 [] := List.mem_of_getElem? (i := 1) rfl
  obtain ⟨a0, hl, hb⟩ := rC_r_e hb
  rw [hl]
  obtain ⟨M, h1, h2⟩ := hb
  exact ⟨M, (rMg_st h m0 (by decide) m1 h1), h2⟩
theorem rs_307 {K : Nat → Nat} {n : Nat} {vs : List jv} {j : Nat} {σ σ' : Nat → jcell} (h : ∀ a, a < n → ∀ q ∈ ra_dep.getD 307 [], q.1 = K a → aSm vs q (σ a) (σ' a)) (hb : rb_307 K n (vs.take j) σ) : rb_307 K n (vs.take j) σ' := by
  have m0 : ((62, [24], none) : aDe) ∈ ra_dep.getD 307 [] := List.mem_of_getElem? (i := 0) rfl
  have m1 : ((82, [], none) : aDe) ∈ ra_dep.getD 307 [] := List.mem_of_getElem? (i := 1) rfl
  obtain ⟨a0, hl, hb⟩ := rC_r_e hb
  rw [hl]
  obtain ⟨M, h1, h2⟩ := hb
  exact ⟨M, (rMg_st h m0 (by decide) m1 h1), h2⟩
theorem rs_308 {K : Nat → Nat} {n : Nat} {vs : List jv} {j : Nat} {σ σ' : Nat → jcell} (h : ∀ a, a < n → ∀ q ∈ ra_dep.getD 308 [], q.1 = K a → aSm vs q (σ a) (σ' a)) (hb : rb_308 K n (vs.take j) σ) : rb_308 K n (vs.take j) σ' := by
  have m0 : ((62, [24], none) : aDe) ∈ ra_dep.getD 308 [] := List.mem_of_getElem? (i := 0) rfl
  have m1 : ((82, [], none) : aDe) ∈ ra_dep.getD 308 [] := List.mem_of_getElem? (i := 1) rfl
  obtain ⟨a0, hl, hb⟩ := rC_r_e hb
  rw [hl]
  obtain ⟨M, h1, h2⟩ := hb
  exact ⟨M, (rMg_st h m0 (by decide) m1 h1), h2⟩
theorem rs_309 {K : Nat → Nat} {n : Nat} {vs : List jv} {j : Nat} {σ σ' : Nat → jcell} (h : ∀ a, a < n → ∀ q ∈ ra_dep.getD 309 [], q.1 = K a → aSm vs q (σ a) (σ' a)) (hb : rb_309 K n (vs.take j) σ) : rb_309 K n (vs.take j) σ' := by
  have m0 : ((62, [24], none) : aDe) ∈ ra_dep.getD 309 [] := List.mem_of_getElem? (i := 0) rfl
  have m1 : ((82, [], none) : aDe) ∈ ra_dep.getD 309 [] := List.mem_of_getElem? (i := 1) rfl
  obtain ⟨a0, hl, hb⟩ := rC_r_e hb
  rw [hl]
  obtain ⟨M, h1, h2⟩ := hb
  exact ⟨M, (rMg_st h m0 (by decide) m1 h1), h2⟩
theorem rs_310 {K : Nat → Nat} {n : Nat} {vs : List jv} {j : Nat} {σ σ' : Nat → jcell} (h : ∀ a, a < n → ∀ q ∈ ra_dep.getD 310 [], q.1 = K a → aSm vs q (σ a) (σ' a)) (hb : rb_310 K n (vs.take j) σ) : rb_310 K n (vs.take j) σ' := by
  have m0 : ((62, [24], none) : aDe) ∈ ra_dep.getD 310 [] := List.mem_of_getElem? (i := 0) rfl
  have m1 : ((82, [], none) : aDe) ∈ ra_dep.getD 310 [] := List.mem_of_getElem? (i := 1) rfl
  obtain ⟨a0, hl, hb⟩ := rC_r_e hb
  rw [hl]
  obtain ⟨M, h1, h2⟩ := hb
  exact ⟨M, (rMg_st h m0 (by decide) m1 h1), h2⟩
theorem rs_311 {K : Nat → Nat} {n : Nat} {vs : List jv} {j : Nat} {σ σ' : Nat → jcell} (h : ∀ a, a < n → ∀ q ∈ ra_dep.getD 311 [], q.1 = K a → aSm vs q (σ a) (σ' a)) (hb : rb_311 K n (vs.take j) σ) : rb_311 K n (vs.take j) σ' := by
  have m0 : ((62, [24], none) : aDe) ∈ ra_dep.getD 311 [] := List.mem_of_getElem? (i := 0) rfl
  have m1 : ((82, [], none) : aDe) ∈ ra_dep.getD 311 [] := List.mem_of_getElem? (i := 1) rfl
  obtain ⟨a0, hl, hb⟩ := rC_r_e hb
  rw [hl]
  obtain ⟨M, h1, h2⟩ := hb
  exact ⟨M, (rMg_st h m0 (by decide) m1 h1), h2⟩
theorem rs_312 {K : Nat → Nat} {n : Nat} {vs : List jv} {j : Nat} {σ σ' : Nat → jcell} (h : ∀ a, a < n → ∀ q ∈ ra_dep.getD 312 [], q.1 = K a → aSm vs q (σ a) (σ' a)) (hb : rb_312 K n (vs.take j) σ) : rb_312 K n (vs.take j) σ' := by
  have m0 : ((62, [24], none) : aDe) ∈ ra_dep.getD 312 [] := List.mem_of_getElem? (i := 0) rfl
  have m1 : ((82, [], none) : aDe) ∈ ra_dep.getD 312 [] := List.mem_of_getElem? (i := 1) rfl
  obtain ⟨a0, hl, hb⟩ := rC_r_e hb
  rw [hl]
  obtain ⟨M, h1, h2⟩ := hb
  exact ⟨M, (rMg_st h m0 (by decide) m1 h1), h2⟩
theorem rs_313 {K : Nat → Nat} {n : Nat} {vs : List jv} {j : Nat} {σ σ' : Nat → jcell} (h : ∀ a, a < n → ∀ q ∈ ra_dep.getD 313 [], q.1 = K a → aSm vs q (σ a) (σ' a)) (hb : rb_313 K n (vs.take j) σ) : rb_313 K n (vs.take j) σ' := by
  have m0 : ((62, [24], none) : aDe) ∈ ra_dep.getD 313 [] := List.mem_of_getElem? (i := 0) rfl
  have m1 : ((82, [], none) : aDe) ∈ ra_dep.getD 313 [] := List.mem_of_getElem? (i := 1) rfl
  obtain ⟨a0, hl, hb⟩ := rC_r_e hb
  rw [hl]
  obtain ⟨M, h1, h2⟩ := hb
  exact ⟨M, (rMg_st h m0 (by decide) m1 h1), h2⟩
theorem rs_314 {K : Nat → Nat} {n : Nat} {vs : List jv} {j : Nat} {σ σ' : Nat → jcell} (h : ∀ a, a < n → ∀ q ∈ ra_dep.getD 314 [], q.1 = K a → aSm vs q (σ a) (σ' a)) (hb : rb_314 K n (vs.take j) σ) : rb_314 K n (vs.take j) σ' := by
  have m0 : ((62, [24], none) : aDe) ∈ ra_dep.getD 314 [] := List.mem_of_getElem? (i := 0) rfl
  have m1 : ((82, [], none) : aDe) ∈ ra_dep.getD 314 [] := List.mem_of_getElem? (i := 1) rfl
  obtain ⟨a0, hl, hb⟩ := rC_r_e hb
  rw [hl]
  obtain ⟨M, h1, h2⟩ := hb
  exact ⟨M, (rMg_st h m0 (by decide) m1 h1), h2⟩
theorem rs_315 {K : Nat → Nat} {n : Nat} {vs : List jv} {j : Nat} {σ σ' : Nat → jcell} (h : ∀ a, a < n → ∀ q ∈ ra_dep.getD 315 [], q.1 = K a → aSm vs q (σ a) (σ' a)) (hb : rb_315 K n (vs.take j) σ) : rb_315 K n (vs.take j) σ' := by
  have m0 : ((62, [24], none) : aDe) ∈ ra_dep.getD 315 [] := List.mem_of_getElem? (i := 0) rfl
  have m1 : ((82, [], none) : aDe) ∈ ra_dep.getD 315 [] := List.mem_of_getElem? (i := 1) rfl
  obtain ⟨a0, hl, hb⟩ := rC_r_e hb
  rw [hl]
  obtain ⟨M, h1, h2⟩ := hb
  exact ⟨M, (rMg_st h m0 (by decide) m1 h1), h2⟩
theorem rs_316 {K : Nat → Nat} {n : Nat} {vs : List jv} {j : Nat} {σ σ' : Nat → jcell} (h : ∀ a, a < n → ∀ q ∈ ra_dep.getD 316 [], q.1 = K a → aSm vs q (σ a) (σ' a)) (hb : rb_316 K n (vs.take j) σ) : rb_316 K n (vs.take j) σ' := by
  have m0 : ((62, [24], none) : aDe) ∈ ra_dep.getD 316 [] := List.mem_of_getElem? (i := 0) rfl
  have m1 : ((82, [], none) : aDe) ∈ ra_dep.getD 316 [] := List.mem_of_getElem? (i := 1) rfl
  obtain ⟨a0, hl, hb⟩ := rC_r_e hb
  rw [hl]
  obtain ⟨M, h1, h2⟩ := hb
  exact ⟨M, (rMg_st h m0 (by decide) m1 h1), h2⟩
theorem rs_317 {K : Nat → Nat} {n : Nat} {vs : List jv} {j : Nat} {σ σ' : Nat → jcell} (h : ∀ a, a < n → ∀ q ∈ ra_dep.getD 317 [], q.1 = K a → aSm vs q (σ a) (σ' a)) (hb : rb_317 K n (vs.take j) σ) : rb_317 K n (vs.take j) σ' := by
  have m0 : ((62, [24], none) : aDe) ∈ ra_dep.getD 317 [] := List.mem_of_getElem? (i := 0) rfl
  have m1 : ((82, [], none) : aDe) ∈ ra_dep.getD 317 [] := List.mem_of_getElem? (i := 1) rfl
  obtain ⟨a0, hl, hb⟩ := rC_r_e hb
  rw [hl]
  obtain ⟨M, h1, h2⟩ := hb
  exact ⟨M, (rMg_st h m0 (by decide) m1 h1), h2⟩
theorem rs_318 {K : Nat → Nat} {n : Nat} {vs : List jv} {j : Nat} {σ σ' : Nat → jcell} (h : ∀ a, a < n → ∀ q ∈ ra_dep.getD 318 [], q.1 = K a → aSm vs q (σ a) (σ' a)) (hb : rb_318 K n (vs.take j) σ) : rb_318 K n (vs.take j) σ' := by
  have m0 : ((62, [24], none) : aDe) ∈ ra_dep.getD 318 [] := List.mem_of_getElem? (i := 0) rfl
  have m1 : ((82, [], none) : aDe) ∈ ra_dep.getD 318 [] := List.mem_of_getElem? (i := 1) rfl
  obtain ⟨a0, hl, hb⟩ := rC_r_e hb
  rw [hl]
  obtain ⟨M, h1, h2⟩ := hb
  exact ⟨M, (rMg_st h m0 (by decide) m1 h1), h2⟩
theorem rs_319 {K : Nat → Nat} {n : Nat} {vs : List jv} {j : Nat} {σ σ' : Nat → jcell} (h : ∀ a, a < n → ∀ q ∈ ra_dep.getD 319 [], q.1 = K a → aSm vs q (σ a) (σ' a)) (hb : rb_319 K n (vs.take j) σ) : rb_319 K n (vs.take j) σ' := by
  have m0 : ((62, [24], none) : aDe) ∈ ra_dep.getD 319 [] := List.mem_of_getElem? (i := 0) rfl
  have m1 : ((82, [], none) : aDe) ∈ ra_dep.getD 319 [] := List.mem_of_getElem? (i := 1) rfl
  obtain ⟨a0, hl, hb⟩ := rC_r_e hb
  rw [hl]
  obtain ⟨M, h1, h2⟩ := hb
  exact ⟨M, (rMg_st h m0 (by decide) m1 h1), h2⟩
theorem rs_320 {K : Nat → Nat} {n : Nat} {vs : List jv} {j : Nat} {σ σ' : Nat → jcell} (h : ∀ a, a < n → ∀ q ∈ ra_dep.getD 320 [], q.1 = K a → aSm vs q (σ a) (σ' a)) (hb : rb_320 K n (vs.take j) σ) : rb_320 K n (vs.take j) σ' := by
  have m0 : ((62, [24], none) : aDe) ∈ ra_dep.getD 320 [] := List.mem_of_getElem? (i := 0) rfl
  have m1 : ((82, [], none) : aDe) ∈ ra_dep.getD 320 [] := List.mem_of_getElem? (i := 1) rfl
  obtain ⟨a0, hl, hb⟩ := rC_r_e hb
  rw [hl]
  obtain ⟨M, h1, h2⟩ := hb
  exact ⟨M, (rMg_st h m0 (by decide) m1 h1), h2⟩
theorem rs_321 {K : Nat → Nat} {n : Nat} {vs : List jv} {j : Nat} {σ σ' : Nat → jcell} (h : ∀ a, a < n → ∀ q ∈ ra_dep.getD 321 [], q.1 = K a → aSm vs q (σ a) (σ' a)) (hb : rb_321 K n (vs.take j) σ) : rb_321 K n (vs.take j) σ' := by
  have m0 : ((62, [24], none) : aDe) ∈ ra_dep.getD 321 [] := List.mem_of_getElem? (i := 0) rfl
  have m1 : ((82, [], none) : aDe) ∈ ra_dep.getD 321 [] := List.mem_of_getElem? (i := 1) rfl
  obtain ⟨a0, hl, hb⟩ := rC_r_e hb
  rw [hl]
  obtain ⟨M, h1, h2⟩ := hb
  exact ⟨M, (rMg_st h m0 (by decide) m1 h1), h2⟩
theorem rs_322 {K : Nat → Nat} {n : Nat} {vs : List jv} {j : Nat} {σ σ' : Nat → jcell} (h : ∀ a, a < n → ∀ q ∈ ra_dep.getD 322 [], q.1 = K a → aSm vs q (σ a) (σ' a)) (hb : rb_322 K n (vs.take j) σ) : rb_322 K n (vs.take j) σ' := by
  have m0 : ((62, [24], none) : aDe) ∈ ra_dep.getD 322 [] := List.mem_of_getElem? (i := 0) rfl
  have m1 : ((82, [], none) : aDe) ∈ ra_dep.getD 322 [] := List.mem_of_getElem? (i := 1) rfl
  obtain ⟨a0, hl, hb⟩ := rC_r_e hb
  rw [hl]
  obtain ⟨M, h1, h2⟩ := hb
  exact ⟨M, (rMg_st h m0 (by decide) m1 h1), h2⟩
theorem rs_323 {K : Nat → Nat} {n : Nat} {vs : List jv} {j : Nat} {σ σ' : Nat → jcell} (h : ∀ a, a < n → ∀ q ∈ ra_dep.getD 323 [], q.1 = K a → aSm vs q (σ a) (σ' a)) (hb : rb_323 K n (vs.take j) σ) : rb_323 K n (vs.take j) σ' := by
  have m0 : ((62, [24], none) : aDe) ∈ ra_dep.getD 323 [] := List.mem_of_getElem? (i := 0) rfl
  have m1 : ((82, [], none) : aDe) ∈ ra_dep.getD 323 [] := List.mem_of_getElem? (i := 1) rfl
  obtain ⟨a0, hl, hb⟩ := rC_r_e hb
  rw [hl]
  obtain ⟨M, h1, h2⟩ := hb
  exact ⟨M, (rMg_st h m0 (by decide) m1 h1), h2⟩
theorem rs_324 {K : Nat → Nat} {n : Nat} {vs : List jv} {j : Nat} {σ σ' : Nat → jcell} (h : ∀ a, a < n → ∀ q ∈ ra_dep.getD 324 [], q.1 = K a → aSm vs q (σ a) (σ' a)) (hb : rb_324 K n (vs.take j) σ) : rb_324 K n (vs.take j) σ' := by
  have m0 : ((62, [24], none) : aDe) ∈ ra_dep.getD 324 [] := List.mem_of_getElem? (i := 0) rfl
  have m1 : ((82, [], none) : aDe) ∈ ra_dep.getD 324 [] := List.mem_of_getElem? (i := 1) rfl
  obtain ⟨a0, hl, hb⟩ := rC_r_e hb
  rw [hl]
  obtain ⟨M, h1, h2⟩ := hb
  exact ⟨M, (rMg_st h m0 (by decide) m1 h1), h2⟩
theorem rs_325 {K : Nat → Nat} {n : Nat} {vs : List jv} {j : Nat} {σ σ' : Nat → jcell} (h : ∀ a, a < n → ∀ q ∈ ra_dep.getD 325 [], q.1 = K a → aSm vs q (σ a) (σ' a)) (hb : rb_325 K n (vs.take j) σ) : rb_325 K n (vs.take j) σ' := by
  have m0 : ((62, [24], none) : aDe) ∈ ra_dep.getD 325 [] := List.mem_of_getElem? (i := 0) rfl
  have m1 : ((82, [], none) : aDe) ∈ ra_dep.getD 325 [] := List.mem_of_getElem? (i := 1) rfl
  obtain ⟨a0, hl, hb⟩ := rC_r_e hb
  rw [hl]
  obtain ⟨M, h1, h2⟩ := hb
  exact ⟨M, (rMg_st h m0 (by decide) m1 h1), h2⟩
theorem rs_326 {K : Nat → Nat} {n : Nat} {vs : List jv} {j : Nat} {σ σ' : Nat → jcell} (h : ∀ a, a < n → ∀ q ∈ ra_dep.getD 326 [], q.1 = K a → aSm vs q (σ a) (σ' a)) (hb : rb_326 K n (vs.take j) σ) : rb_326 K n (vs.take j) σ' := by
  have m0 : ((62, [24], none) : aDe) ∈ ra_dep.getD 326 [] := List.mem_of_getElem? (i := 0) rfl
  have m1 : ((82, [], none) : aDe) ∈ ra_dep.getD 326 [] := List.mem_of_getElem? (i := 1) rfl
  obtain ⟨a0, hl, hb⟩ := rC_r_e hb
  rw [hl]
  obtain ⟨M, h1, h2⟩ := hb
  exact ⟨M, (rMg_st h m0 (by decide) m1 h1), h2⟩
theorem rs_327 {K : Nat → Nat} {n : Nat} {vs : List jv} {j : Nat} {σ σ' : Nat → jcell} (h : ∀ a, a < n → ∀ q ∈ ra_dep.getD 327 [], q.1 = K a → aSm vs q (σ a) (σ' a)) (hb : rb_327 K n (vs.take j) σ) : rb_327 K n (vs.take j) σ' := by
  have m0 : ((62, [24], none) : aDe) ∈ ra_dep.getD 327 [] := List.mem_of_getElem? (i := 0) rfl
  have m1 : ((82, [], none) : aDe) ∈ ra_dep.getD 327 [] := List.mem_of_getElem? (i := 1) rfl
  obtain ⟨a0, hl, hb⟩ := rC_r_e hb
  rw [hl]
  obtain ⟨M, h1, h2⟩ := hb
  exact ⟨M, (rMg_st h m0 (by decide) m1 h1), h2⟩
theorem rs_328 {K : Nat → Nat} {n : Nat} {vs : List jv} {j : Nat} {σ σ' : Nat → jcell} (h : ∀ a, a < n → ∀ q ∈ ra_dep.getD 328 [], q.1 = K a → aSm vs q (σ a) (σ' a)) (hb : rb_328 K n (vs.take j) σ) : rb_328 K n (vs.take j) σ' := by
  have m0 : ((62, [24], none) : aDe) ∈ ra_dep.getD 328 [] := List.mem_of_getElem? (i := 0) rfl
  have m1 : ((82, [], none) : aDe) ∈ ra_dep.getD 328 [] := List.mem_of_getElem? (i := 1) rfl
  obtain ⟨a0, hl, hb⟩ := rC_r_e hb
  rw [hl]
  obtain ⟨M, h1, h2⟩ := hb
  exact ⟨M, (rMg_st h m0 (by decide) m1 h1), h2⟩
theorem rs_329 {K : Nat → Nat} {n : Nat} {vs : List jv} {j : Nat} {σ σ' : Nat → jcell} (h : ∀ a, a < n → ∀ q ∈ ra_dep.getD 329 [], q.1 = K a → aSm vs q (σ a) (σ' a)) (hb : rb_329 K n (vs.take j) σ) : rb_329 K n (vs.take j) σ' := by
  have m0 : ((62, [24], none) : aDe) ∈ ra_dep.getD 329 [] := List.mem_of_getElem? (i := 0) rfl
  have m1 : ((82, [], none) : aDe) ∈ ra_dep.getD 329 [] := List.mem_of_getElem? (i := 1) rfl
  obtain ⟨a0, hl, hb⟩ := rC_r_e hb
  rw [hl]
  obtain ⟨M, h1, h2⟩ := hb
  exact ⟨M, (rMg_st h m0 (by decide) m1 h1), h2⟩
theorem rs_330 {K : Nat → Nat} {n : Nat} {vs : List jv} {j : Nat} {σ σ' : Nat → jcell} (h : ∀ a, a < n → ∀ q ∈ ra_dep.getD 330 [], q.1 = K a → aSm vs q (σ a) (σ' a)) (hb : rb_330 K n (vs.take j) σ) : rb_330 K n (vs.take j) σ' := by
  have m0 : ((62, [24], none) : aDe) ∈ ra_dep.getD 330 [] := List.mem_of_getElem? (i := 0) rfl
  have m1 : ((82, [], none) : aDe) ∈ ra_dep.getD 330 [] := List.mem_of_getElem? (i := 1) rfl
  obtain ⟨a0, hl, hb⟩ := rC_r_e hb
  rw [hl]
  obtain ⟨M, h1, h2⟩ := hb
  exact ⟨M, (rMg_st h m0 (by decide) m1 h1), h2⟩
theorem rs_331 {K : Nat → Nat} {n : Nat} {vs : List jv} {j : Nat} {σ σ' : Nat → jcell} (h : ∀ a, a < n → ∀ q ∈ ra_dep.getD 331 [], q.1 = K a → aSm vs q (σ a) (σ' a)) (hb : rb_331 K n (vs.take j) σ) : rb_331 K n (vs.take j) σ' := by
  have m0 : ((62, [24], none) : aDe) ∈ ra_dep.getD 331 [] := List.mem_of_getElem? (i := 0) rfl
  have m1 : ((82, [], none) : aDe) ∈ ra_dep.getD 331 [] := List.mem_of_getElem? (i := 1) rfl
  obtain ⟨a0, hl, hb⟩ := rC_r_e hb
  rw [hl]
  obtain ⟨M, h1, h2⟩ := hb
  exact ⟨M, (rMg_st h m0 (by decide) m1 h1), h2⟩
theorem rs_332 {K : Nat → Nat} {n : Nat} {vs : List jv} {j : Nat} {σ σ' : Nat → jcell} (h : ∀ a, a < n → ∀ q ∈ ra_dep.getD 332 [], q.1 = K a → aSm vs q (σ a) (σ' a)) (hb : rb_332 K n (vs.take j) σ) : rb_332 K n (vs.take j) σ' := by
  have m0 : ((62, [24], none) : aDe) ∈ ra_dep.getD 332 [] := List.mem_of_getElem? (i := 0) rfl
  have m1 : ((82, [], none) : aDe) ∈ ra_dep.getD 332 [] := List.mem_of_getElem? (i := 1) rfl
  obtain ⟨a0, hl, hb⟩ := rC_r_e hb
  rw [hl]
  obtain ⟨M, h1, h2⟩ := hb
  exact ⟨M, (rMg_st h m0 (by decide) m1 h1), h2⟩
theorem rs_333 {K : Nat → Nat} {n : Nat} {vs : List jv} {j : Nat} {σ σ' : Nat → jcell} (h : ∀ a, a < n → ∀ q ∈ ra_dep.getD 333 [], q.1 = K a → aSm vs q (σ a) (σ' a)) (hb : rb_333 K n (vs.take j) σ) : rb_333 K n (vs.take j) σ' := by
  have m0 : ((62, [38, 39, 22], none) : aDe) ∈ ra_dep.getD 333 [] := List.mem_of_getElem? (i := 0) rfl
  have m1 : ((80, [], none) : aDe) ∈ ra_dep.getD 333 [] := List.mem_of_getElem? (i := 1) rfl
  obtain ⟨a0, a1, hl, hb⟩ := rC_ri_e hb
  rw [hl]
  have hb : ∃ g t e, rVl K n σ a0 g ∧ rOb K n σ a0 62 38 (rI t) ∧ rOb K n σ a0 62 39 (rI e) ∧ a1.toInt = (if t.toInt < e.toInt then (g t.toInt.toNat).toInt else 0) := hb
  have r9 : ∃ g t e, rVl K n σ' a0 g ∧ rOb K n σ' a0 62 38 (rI t) ∧ rOb K n σ' a0 62 39 (rI e) ∧ a1.toInt = (if t.toInt < e.toInt then (g t.toInt.toNat).toInt else 0) := by
    obtain ⟨g, t, e, r1, o1, o2, e1⟩ := hb
    exact ⟨g, t, e, rVl_st h m0 (by decide) m1 r1, (rOb_st h m0 (by decide) o1), (rOb_st h m0 (by decide) o2), e1⟩
  exact r9
theorem rs_334 {K : Nat → Nat} {n : Nat} {vs : List jv} {j : Nat} {σ σ' : Nat → jcell} (h : ∀ a, a < n → ∀ q ∈ ra_dep.getD 334 [], q.1 = K a → aSm vs q (σ a) (σ' a)) (hb : rb_334 K n (vs.take j) σ) : rb_334 K n (vs.take j) σ' := by
  have m0 : ((62, [24], none) : aDe) ∈ ra_dep.getD 334 [] := List.mem_of_getElem? (i := 0) rfl
  have m1 : ((82, [], none) : aDe) ∈ ra_dep.getD 334 [] := List.mem_of_getElem? (i := 1) rfl
  obtain ⟨a0, hl, hb⟩ := rC_r_e hb
  rw [hl]
  obtain ⟨M, h1, h2⟩ := hb
  exact ⟨M, (rMg_st h m0 (by decide) m1 h1), h2⟩
theorem rs_335 {K : Nat → Nat} {n : Nat} {vs : List jv} {j : Nat} {σ σ' : Nat → jcell} (h : ∀ a, a < n → ∀ q ∈ ra_dep.getD 335 [], q.1 = K a → aSm vs q (σ a) (σ' a)) (hb : rb_335 K n (vs.take j) σ) : rb_335 K n (vs.take j) σ' := by
  have m0 : ((62, [24], none) : aDe) ∈ ra_dep.getD 335 [] := List.mem_of_getElem? (i := 0) rfl
  have m1 : ((82, [], none) : aDe) ∈ ra_dep.getD 335 [] := List.mem_of_getElem? (i := 1) rfl
  unfold rb_335 at hb
  rcases hb with hb | hb
  · obtain ⟨a0, hl, hb⟩ := rC_r_e hb
    rw [hl]
    obtain ⟨M, h1, h2⟩ := hb
    refine Or.inl ?_
    exact ⟨M, (rMg_st h m0 (by decide) m1 h1), h2⟩
  · obtain ⟨a0, a1, a2, a3, hl, hb⟩ := rC_riii_e hb
    rw [hl]
    obtain ⟨M, h1, h2⟩ := hb
    refine Or.inr (?_)
    exact ⟨M, (rMg_st h m0 (by decide) m1 h1), h2⟩
theorem rs_336 {K : Nat → Nat} {n : Nat} {vs : List jv} {j : Nat} {σ σ' : Nat → jcell} (h : ∀ a, a < n → ∀ q ∈ ra_dep.getD 336 [], q.1 = K a → aSm vs q (σ a) (σ' a)) (hb : rb_336 K n (vs.take j) σ) : rb_336 K n (vs.take j) σ' := by
  have m0 : ((62, [24], none) : aDe) ∈ ra_dep.getD 336 [] := List.mem_of_getElem? (i := 0) rfl
  have m1 : ((82, [], none) : aDe) ∈ ra_dep.getD 336 [] := List.mem_of_getElem? (i := 1) rfl
  unfold rb_336 at hb
  rcases hb with hb | hb
  · obtain ⟨a0, hl, hb⟩ := rC_r_e hb
    rw [hl]
    obtain ⟨M, h1, h2⟩ := hb
    refine Or.inl ?_
    exact ⟨M, (rMg_st h m0 (by decide) m1 h1), h2⟩
  · obtain ⟨a0, a1, a2, a3, hl, hb⟩ := rC_riii_e hb
    rw [hl]
    obtain ⟨M, h1, h2⟩ := hb
    refine Or.inr (?_)
    exact ⟨M, (rMg_st h m0 (by decide) m1 h1), h2⟩
theorem rs_337 {K : Nat → Nat} {n : Nat} {vs : List jv} {j : Nat} {σ σ' : Nat → jcell} (h : ∀ a, a < n → ∀ q ∈ ra_dep.getD 337 [], q.1 = K a → aSm vs q (σ a) (σ' a)) (hb : rb_337 K n (vs.take j) σ) : rb_337 K n (vs.take j) σ' := by
  have m0 : ((62, [24], none) : aDe) ∈ ra_dep.getD 337 [] := List.mem_of_getElem? (i := 0) rfl
  have m1 : ((82, [], none) : aDe) ∈ ra_dep.getD 337 [] := List.mem_of_getElem? (i := 1) rfl
  obtain ⟨a0, a1, a2, hl, hb⟩ := rC_rii_e hb
  rw [hl]
  obtain ⟨M, h1, h2⟩ := hb
  exact ⟨M, (rMg_st h m0 (by decide) m1 h1), h2⟩
theorem rs_338 {K : Nat → Nat} {n : Nat} {vs : List jv} {j : Nat} {σ σ' : Nat → jcell} (h : ∀ a, a < n → ∀ q ∈ ra_dep.getD 338 [], q.1 = K a → aSm vs q (σ a) (σ' a)) (hb : rb_338 K n (vs.take j) σ) : rb_338 K n (vs.take j) σ' := by
  have m0 : ((62, [24, 25, 26, 27], none) : aDe) ∈ ra_dep.getD 338 [] := List.mem_of_getElem? (i := 0) rfl
  have m1 : ((82, [], none) : aDe) ∈ ra_dep.getD 338 [] := List.mem_of_getElem? (i := 1) rfl
  obtain ⟨a0, a1, hl, hb⟩ := rC_ri_e hb
  rw [hl]
  have hb : a1.toInt = 1 → ∃ M v, rTe K n σ a0 M ∧ rOb K n σ a0 62 25 (rI v) ∧ 0 ≤ v.toInt ∧ v.toInt ≤ 1 ∧ ∀ j, 0 ≤ j → j ≤ 63 → M j = 8 * (1 - v.toInt) + 6 → ∃ s, 0 ≤ s ∧ s ≤ 63 ∧ M s = 8 * (1 - v.toInt) + 6 ∧ ¬ rAk M s v.toInt := hb
  have r9 : a1.toInt = 1 → ∃ M v, rTe K n σ' a0 M ∧ rOb K n σ' a0 62 25 (rI v) ∧ 0 ≤ v.toInt ∧ v.toInt ≤ 1 ∧ ∀ j, 0 ≤ j → j ≤ 63 → M j = 8 * (1 - v.toInt) + 6 → ∃ s, 0 ≤ s ∧ s ≤ 63 ∧ M s = 8 * (1 - v.toInt) + 6 ∧ ¬ rAk M s v.toInt := by
    intro h9
    obtain ⟨M, v, hm, o1, e1⟩ := hb h9
    exact ⟨M, v, (rMg_st h m0 (by decide) m1 hm), (rOb_st h m0 (by decide) o1), e1⟩
  exact r9
theorem rs_339 {K : Nat → Nat} {n : Nat} {vs : List jv} {j : Nat} {σ σ' : Nat → jcell} (h : ∀ a, a < n → ∀ q ∈ ra_dep.getD 339 [], q.1 = K a → aSm vs q (σ a) (σ' a)) (hb : rb_339 K n (vs.take j) σ) : rb_339 K n (vs.take j) σ' := by
  have m0 : ((62, [24, 25, 26, 27], none) : aDe) ∈ ra_dep.getD 339 [] := List.mem_of_getElem? (i := 0) rfl
  have m1 : ((82, [], none) : aDe) ∈ ra_dep.getD 339 [] := List.mem_of_getElem? (i := 1) rfl
  obtain ⟨a0, a1, hl, hb⟩ := rC_ri_e hb
  rw [hl]
  have hb : a1.toInt = 1 → ∃ M v P, rTe K n σ a0 M ∧ rOb K n σ a0 62 25 (rI v) ∧ rOb K n σ a0 62 27 (rI P) ∧ 0 ≤ P.toInt ∧ P.toInt ≤ 63 ∧ M P.toInt = 0 ∧ ((v.toInt = 0 ∧ P.toInt / 8 = 5) ∨ (v.toInt = 1 ∧ P.toInt / 8 = 2)) := hb
  have r9 : a1.toInt = 1 → ∃ M v P, rTe K n σ' a0 M ∧ rOb K n σ' a0 62 25 (rI v) ∧ rOb K n σ' a0 62 27 (rI P) ∧ 0 ≤ P.toInt ∧ P.toInt ≤ 63 ∧ M P.toInt = 0 ∧ ((v.toInt = 0 ∧ P.toInt / 8 = 5) ∨ (v.toInt = 1 ∧ P.toInt / 8 = 2)) := by
    intro h9
    obtain ⟨M, v, P, hm, o1, o2, e1⟩ := hb h9
    exact ⟨M, v, P, (rMg_st h m0 (by decide) m1 hm), (rOb_st h m0 (by decide) o1), (rOb_st h m0 (by decide) o2), e1⟩
  exact r9
theorem rs_340 {K : Nat → Nat} {n : Nat} {vs : List jv} {j : Nat} {σ σ' : Nat → jcell} (h : ∀ a, a < n → ∀ q ∈ ra_dep.getD 340 [], q.1 = K a → aSm vs q (σ a) (σ' a)) (hb : rb_340 K n (vs.take j) σ) : rb_340 K n (vs.take j) σ' := by
  have m0 : ((62, [24, 25, 26, 27], none) : aDe) ∈ ra_dep.getD 340 [] := List.mem_of_getElem? (i := 0) rfl
  have m1 : ((82, [], none) : aDe) ∈ ra_dep.getD 340 [] := List.mem_of_getElem? (i := 1) rfl
  obtain ⟨a0, a1, hl, hb⟩ := rC_ri_e hb
  rw [hl]
  have hb : a1.toInt = 1 → ∃ M v P, rTe K n σ a0 M ∧ rOb K n σ a0 62 25 (rI v) ∧ rOb K n σ a0 62 27 (rI P) ∧ rPs (M, v.toInt, 0, P.toInt) := hb
  have r9 : a1.toInt = 1 → ∃ M v P, rTe K n σ' a0 M ∧ rOb K n σ' a0 62 25 (rI v) ∧ rOb K n σ' a0 62 27 (rI P) ∧ rPs (M, v.toInt, 0, P.toInt) := by
    intro h9
    obtain ⟨M, v, P, hm, o1, o2, e1⟩ := hb h9
    exact ⟨M, v, P, (rMg_st h m0 (by decide) m1 hm), (rOb_st h m0 (by decide) o1), (rOb_st h m0 (by decide) o2), e1⟩
  exact r9
theorem rs_341 {K : Nat → Nat} {n : Nat} {vs : List jv} {j : Nat} {σ σ' : Nat → jcell} (h : ∀ a, a < n → ∀ q ∈ ra_dep.getD 341 [], q.1 = K a → aSm vs q (σ a) (σ' a)) (hb : rb_341 K n (vs.take j) σ) : rb_341 K n (vs.take j) σ' := by
  exact hb
theorem rs_449 {K : Nat → Nat} {n : Nat} {p : rP} {vs : List jv} {j : Nat} {σ σ' : Nat → jcell} (h : ∀ a, a < n → ∀ q ∈ ra_dep.getD 449 [], q.1 = K a → aSm vs q (σ a) (σ' a)) (hb : rb_449 K n p (vs.take j) σ) : rb_449 K n p (vs.take j) σ' := by
  have m0 : ((62, [7, 8, 9, 10, 11, 16, 17], none) : aDe) ∈ ra_dep.getD 449 [] := List.mem_of_getElem? (i := 0) rfl
  have m1 : ((65, [], none) : aDe) ∈ ra_dep.getD 449 [] := List.mem_of_getElem? (i := 1) rfl
  have m2 : ((66, [], none) : aDe) ∈ ra_dep.getD 449 [] := List.mem_of_getElem? (i := 2) rfl
  have m3 : ((67, [], none) : aDe) ∈ ra_dep.getD 449 [] := List.mem_of_getElem? (i := 3) rfl
  have m4 : ((68, [], none) : aDe) ∈ ra_dep.getD 449 [] := List.mem_of_getElem? (i := 4) rfl
  have m5 : ((69, [], none) : aDe) ∈ ra_dep.getD 449 [] := List.mem_of_getElem? (i := 5) rfl
  have m6 : ((74, [], none) : aDe) ∈ ra_dep.getD 449 [] := List.mem_of_getElem? (i := 6) rfl
  have m7 : ((75, [], none) : aDe) ∈ ra_dep.getD 449 [] := List.mem_of_getElem? (i := 7) rfl
  have m8 : ((62, [34], none) : aDe) ∈ ra_dep.getD 449 [] := List.mem_of_getElem? (i := 8) rfl
  have m9 : ((86, [], none) : aDe) ∈ ra_dep.getD 449 [] := List.mem_of_getElem? (i := 9) rfl
  unfold rb_449 at hb
  rcases hb with hb | hb
  · obtain ⟨a0, a1, a2, hl, hb⟩ := rC_rii_e hb
    rw [hl]
    have hb : p.2 = none ∧ ∃ C y, rTY K n σ a0 a1.toInt C y ∧ 0 ≤ a2.toInt ∧ a2.toInt ≤ C ∧ p.1 = rPo y a2.toInt := hb
    have r9 : p.2 = none ∧ ∃ C y, rTY K n σ' a0 a1.toInt C y ∧ 0 ≤ a2.toInt ∧ a2.toInt ≤ C ∧ p.1 = rPo y a2.toInt := by
      obtain ⟨hp, C, y, hY, k1⟩ := hb
      exact ⟨hp, C, y, (rTY_st h m0 (by decide) (by decide) m1 m2 m3 m4 m5 m6 m7 hY), k1⟩
    refine Or.inl ?_
    exact r9
  · obtain ⟨a0, a1, a2, a3, a4, hl, hb⟩ := rC_riiii_e hb
    rw [hl]
    have hb : p.2 = none ∧ ∃ C y, rTY K n σ a0 a1.toInt C y ∧ 0 ≤ a2.toInt ∧ a2.toInt ≤ C ∧ 0 ≤ a3.toInt ∧ rPth K n σ a0 y a2.toInt a3.toInt ∧ rUa y.1 a3.toInt.toNat a2.toInt = 0 ∧ 0 ≤ a4.toInt ∧ a4.toInt < a3.toInt ∧ p.1 = rPo y (rUa y.1 (a4.toInt + 1).toNat a2.toInt) := hb
    have r9 : p.2 = none ∧ ∃ C y, rTY K n σ' a0 a1.toInt C y ∧ 0 ≤ a2.toInt ∧ a2.toInt ≤ C ∧ 0 ≤ a3.toInt ∧ rPth K n σ' a0 y a2.toInt a3.toInt ∧ rUa y.1 a3.toInt.toNat a2.toInt = 0 ∧ 0 ≤ a4.toInt ∧ a4.toInt < a3.toInt ∧ p.1 = rPo y (rUa y.1 (a4.toInt + 1).toNat a2.toInt) := by
      obtain ⟨hp, C, y, hY, k1, k2, k3, ⟨g, r, k4⟩, k5⟩ := hb
      exact ⟨hp, C, y, (rTY_st h m0 (by decide) (by decide) m1 m2 m3 m4 m5 m6 m7 hY), k1, k2, k3, ⟨g, (rRo_st h m8 (by decide) m9 r), k4⟩, k5⟩
    refine Or.inr (?_)
    exact r9
theorem rUfllllll_st {K : Nat → Nat} {n : Nat} {k : Nat} {vs : List jv} {j : Nat} {σ σ' : Nat → jcell} (h : ∀ a, a < n → ∀ q ∈ ra_dep.getD k [], q.1 = K a → aSm vs q (σ a) (σ' a)) (hb : rUfllllll K n k (vs.take j) σ) : rUfllllll K n k (vs.take j) σ' := by
  unfold rUfllllll at hb ⊢
  cases c : Nat.beq k 237 with
  | true =>
    rw [c] at hb
    obtain rfl := Nat.eq_of_beq_eq_true c
    exact rs_237 h hb
  | false =>
    rw [c] at hb
    exact hb.elim
theorem rUflllllr_st {K : Nat → Nat} {n : Nat} {k : Nat} {vs : List jv} {j : Nat} {σ σ' : Nat → jcell} (h : ∀ a, a < n → ∀ q ∈ ra_dep.getD k [], q.1 = K a → aSm vs q (σ a) (σ' a)) (hb : rUflllllr K n k (vs.take j) σ) : rUflllllr K n k (vs.take j) σ' := by
  unfold rUflllllr at hb ⊢
  cases c : Nat.beq k 238 with
  | true =>
    rw [c] at hb
    obtain rfl := Nat.eq_of_beq_eq_true c
    exact rs_238 h hb
  | false =>
    rw [c] at hb
    exact hb.elim
theorem rUflllll_st {K : Nat → Nat} {n : Nat} {k : Nat} {vs : List jv} {j : Nat} {σ σ' : Nat → jcell} (h : ∀ a, a < n → ∀ q ∈ ra_dep.getD k [], q.1 = K a → aSm vs q (σ a) (σ' a)) (hb : rUflllll K n k (vs.take j) σ) : rUflllll K n k (vs.take j) σ' := by
  unfold rUflllll at hb ⊢
  cases c : Nat.ble k 237 with
  | true =>
    rw [c] at hb
    exact rUfllllll_st h hb
  | false =>
    rw [c] at hb
    exact rUflllllr_st h hb
theorem rUfllllrl_st {K : Nat → Nat} {n : Nat} {k : Nat} {vs : List jv} {j : Nat} {σ σ' : Nat → jcell} (h : ∀ a, a < n → ∀ q ∈ ra_dep.getD k [], q.1 = K a → aSm vs q (σ a) (σ' a)) (hb : rUfllllrl K n k (vs.take j) σ) : rUfllllrl K n k (vs.take j) σ' := by
  unfold rUfllllrl at hb ⊢
  cases c : Nat.beq k 241 with
  | true =>
    rw [c] at hb
    obtain rfl := Nat.eq_of_beq_eq_true c
    exact rs_241 h hb
  | false =>
    rw [c] at hb
    exact hb.elim
theorem rUfllllrrl_st {K : Nat → Nat} {n : Nat} {k : Nat} {vs : List jv} {j : Nat} {σ σ' : Nat → jcell} (h : ∀ a, a < n → ∀ q ∈ ra_dep.getD k [], q.1 = K a → aSm vs q (σ a) (σ' a)) (hb : rUfllllrrl K n k (vs.take j) σ) : rUfllllrrl K n k (vs.take j) σ' := by
  unfold rUfllllrrl at hb ⊢
  cases c : Nat.beq k 242 with
  | true =>
    rw [c] at hb
    obtain rfl := Nat.eq_of_beq_eq_true c
    exact rs_242 h hb
  | false =>
    rw [c] at hb
    exact hb.elim
theorem rUfllllrrr_st {K : Nat → Nat} {n : Nat} {k : Nat} {vs : List jv} {j : Nat} {σ σ' : Nat → jcell} (h : ∀ a, a < n → ∀ q ∈ ra_dep.getD k [], q.1 = K a → aSm vs q (σ a) (σ' a)) (hb : rUfllllrrr K n k (vs.take j) σ) : rUfllllrrr K n k (vs.take j) σ' := by
  unfold rUfllllrrr at hb ⊢
  cases c : Nat.beq k 243 with
  | true =>
    rw [c] at hb
    obtain rfl := Nat.eq_of_beq_eq_true c
    exact rs_243 h hb
  | false =>
    rw [c] at hb
    exact hb.elim
theorem rUfllllrr_st {K : Nat → Nat} {n : Nat} {k : Nat} {vs : List jv} {j : Nat} {σ σ' : Nat → jcell} (h : ∀ a, a < n → ∀ q ∈ ra_dep.getD k [], q.1 = K a → aSm vs q (σ a) (σ' a)) (hb : rUfllllrr K n k (vs.take j) σ) : rUfllllrr K n k (vs.take j) σ' := by
  unfold rUfllllrr at hb ⊢
  cases c : Nat.ble k 242 with
  | true =>
    rw [c] at hb
    exact rUfllllrrl_st h hb
  | false =>
    rw [c] at hb
    exact rUfllllrrr_st h hb
theorem rUfllllr_st {K : Nat → Nat} {n : Nat} {k : Nat} {vs : List jv} {j : Nat} {σ σ' : Nat → jcell} (h : ∀ a, a < n → ∀ q ∈ ra_dep.getD k [], q.1 = K a → aSm vs q (σ a) (σ' a)) (hb : rUfllllr K n k (vs.take j) σ) : rUfllllr K n k (vs.take j) σ' := by
  unfold rUfllllr at hb ⊢
  cases c : Nat.ble k 241 with
  | true =>
    rw [c] at hb
    exact rUfllllrl_st h hb
  | false =>
    rw [c] at hb
    exact rUfllllrr_st h hb
theorem rUfllll_st {K : Nat → Nat} {n : Nat} {k : Nat} {vs : List jv} {j : Nat} {σ σ' : Nat → jcell} (h : ∀ a, a < n → ∀ q ∈ ra_dep.getD k [], q.1 = K a → aSm vs q (σ a) (σ' a)) (hb : rUfllll K n k (vs.take j) σ) : rUfllll K n k (vs.take j) σ' := by
  unfold rUfllll at hb ⊢
  cases c : Nat.ble k 238 with
  | true =>
    rw [c] at hb
    exact rUflllll_st h hb
  | false =>
    rw [c] at hb
    exact rUfllllr_st h hb
theorem rUflllrll_st {K : Nat → Nat} {n : Nat} {k : Nat} {vs : List jv} {j : Nat} {σ σ' : Nat → jcell} (h : ∀ a, a < n → ∀ q ∈ ra_dep.getD k [], q.1 = K a → aSm vs q (σ a) (σ' a)) (hb : rUflllrll K n k (vs.take j) σ) : rUflllrll K n k (vs.take j) σ' := by
  unfold rUflllrll at hb ⊢
  cases c : Nat.beq k 245 with
  | true =>
    rw [c] at hb
    obtain rfl := Nat.eq_of_beq_eq_true c
    exact rs_245 h hb
  | false =>
    rw [c] at hb
    exact hb.elim
theorem rUflllrlr_st {K : Nat → Nat} {n : Nat} {k : Nat} {vs : List jv} {j : Nat} {σ σ' : Nat → jcell} (h : ∀ a, a < n → ∀ q ∈ ra_dep.getD k [], q.1 = K a → aSm vs q (σ a) (σ' a)) (hb : rUflllrlr K n k (vs.take j) σ) : rUflllrlr K n k (vs.take j) σ' := by
  unfold rUflllrlr at hb ⊢
  cases c : Nat.beq k 246 with
  | true =>
    rw [c] at hb
    obtain rfl := Nat.eq_of_beq_eq_true c
    exact rs_246 h hb
  | false =>
    rw [c] at hb
    exact hb.elim
theorem rUflllrl_st {K : Nat → Nat} {n : Nat} {k : Nat} {vs : List jv} {j : Nat} {σ σ' : Nat → jcell} (h : ∀ a, a < n → ∀ q ∈ ra_dep.getD k [], q.1 = K a → aSm vs q (σ a) (σ' a)) (hb : rUflllrl K n k (vs.take j) σ) : rUflllrl K n k (vs.take j) σ' := by
  unfold rUflllrl at hb ⊢
  cases c : Nat.ble k 245 with
  | true =>
    rw [c] at hb
    exact rUflllrll_st h hb
  | false =>
    rw [c] at hb
    exact rUflllrlr_st h hb
theorem rUflllrrl_st {K : Nat → Nat} {n : Nat} {k : Nat} {vs : List jv} {j : Nat} {σ σ' : Nat → jcell} (h : ∀ a, a < n → ∀ q ∈ ra_dep.getD k [], q.1 = K a → aSm vs q (σ a) (σ' a)) (hb : rUflllrrl K n k (vs.take j) σ) : rUflllrrl K n k (vs.take j) σ' := by
  unfold rUflllrrl at hb ⊢
  cases c : Nat.beq k 247 with
  | true =>
    rw [c] at hb
    obtain rfl := Nat.eq_of_beq_eq_true c
    exact rs_247 h hb
  | false =>
    rw [c] at hb
    exact hb.elim
theorem rUflllrrrl_st {K : Nat → Nat} {n : Nat} {k : Nat} {vs : List jv} {j : Nat} {σ σ' : Nat → jcell} (h : ∀ a, a < n → ∀ q ∈ ra_dep.getD k [], q.1 = K a → aSm vs q (σ a) (σ' a)) (hb : rUflllrrrl K n k (vs.take j) σ) : rUflllrrrl K n k (vs.take j) σ' := by
  unfold rUflllrrrl at hb ⊢
  cases c : Nat.beq k 248 with
  | true =>
    rw [c] at hb
    obtain rfl := Nat.eq_of_beq_eq_true c
    exact rs_248 h hb
  | false =>
    rw [c] at hb
    exact hb.elim
theorem rUflllrrrr_st {K : Nat → Nat} {n : Nat} {k : Nat} {vs : List jv} {j : Nat} {σ σ' : Nat → jcell} (h : ∀ a, a < n → ∀ q ∈ ra_dep.getD k [], q.1 = K a → aSm vs q (σ a) (σ' a)) (hb : rUflllrrrr K n k (vs.take j) σ) : rUflllrrrr K n k (vs.take j) σ' := by
  unfold rUflllrrrr at hb ⊢
  cases c : Nat.beq k 249 with
  | true =>
    rw [c] at hb
    obtain rfl := Nat.eq_of_beq_eq_true c
    exact rs_249 h hb
  | false =>
    rw [c] at hb
    exact hb.elim
theorem rUflllrrr_st {K : Nat → Nat} {n : Nat} {k : Nat} {vs : List jv} {j : Nat} {σ σ' : Nat → jcell} (h : ∀ a, a < n → ∀ q ∈ ra_dep.getD k [], q.1 = K a → aSm vs q (σ a) (σ' a)) (hb : rUflllrrr K n k (vs.take j) σ) : rUflllrrr K n k (vs.take j) σ' := by
  unfold rUflllrrr at hb ⊢
  cases c : Nat.ble k 248 with
  | true =>
    rw [c] at hb
    exact rUflllrrrl_st h hb
  | false =>
    rw [c] at hb
    exact rUflllrrrr_st h hb
theorem rUflllrr_st {K : Nat → Nat} {n : Nat} {k : Nat} {vs : List jv} {j : Nat} {σ σ' : Nat → jcell} (h : ∀ a, a < n → ∀ q ∈ ra_dep.getD k [], q.1 = K a → aSm vs q (σ a) (σ' a)) (hb : rUflllrr K n k (vs.take j) σ) : rUflllrr K n k (vs.take j) σ' := by
  unfold rUflllrr at hb ⊢
  cases c : Nat.ble k 247 with
  | true =>
    rw [c] at hb
    exact rUflllrrl_st h hb
  | false =>
    rw [c] at hb
    exact rUflllrrr_st h hb
theorem rUflllr_st {K : Nat → Nat} {n : Nat} {k : Nat} {vs : List jv} {j : Nat} {σ σ' : Nat → jcell} (h : ∀ a, a < n → ∀ q ∈ ra_dep.getD k [], q.1 = K a → aSm vs q (σ a) (σ' a)) (hb : rUflllr K n k (vs.take j) σ) : rUflllr K n k (vs.take j) σ' := by
  unfold rUflllr at hb ⊢
  cases c : Nat.ble k 246 with
  | true =>
    rw [c] at hb
    exact rUflllrl_st h hb
  | false =>
    rw [c] at hb
    exact rUflllrr_st h hb
theorem rUflll_st {K : Nat → Nat} {n : Nat} {k : Nat} {vs : List jv} {j : Nat} {σ σ' : Nat → jcell} (h : ∀ a, a < n → ∀ q ∈ ra_dep.getD k [], q.1 = K a → aSm vs q (σ a) (σ' a)) (hb : rUflll K n k (vs.take j) σ) : rUflll K n k (vs.take j) σ' := by
  unfold rUflll at hb ⊢
  cases c : Nat.ble k 243 with
  | true =>
    rw [c] at hb
    exact rUfllll_st h hb
  | false =>
    rw [c] at hb
    exact rUflllr_st h hb
theorem rUfllrlll_st {K : Nat → Nat} {n : Nat} {k : Nat} {vs : List jv} {j : Nat} {σ σ' : Nat → jcell} (h : ∀ a, a < n → ∀ q ∈ ra_dep.getD k [], q.1 = K a → aSm vs q (σ a) (σ' a)) (hb : rUfllrlll K n k (vs.take j) σ) : rUfllrlll K n k (vs.take j) σ' := by
  unfold rUfllrlll at hb ⊢
  cases c : Nat.beq k 250 with
  | true =>
    rw [c] at hb
    obtain rfl := Nat.eq_of_beq_eq_true c
    exact rs_250 h hb
  | false =>
    rw [c] at hb
    exact hb.elim
theorem rUfllrllr_st {K : Nat → Nat} {n : Nat} {k : Nat} {vs : List jv} {j : Nat} {σ σ' : Nat → jcell} (h : ∀ a, a < n → ∀ q ∈ ra_dep.getD k [], q.1 = K a → aSm vs q (σ a) (σ' a)) (hb : rUfllrllr K n k (vs.take j) σ) : rUfllrllr K n k (vs.take j) σ' := by
  unfold rUfllrllr at hb ⊢
  cases c : Nat.beq k 251 with
  | true =>
    rw [c] at hb
    obtain rfl := Nat.eq_of_beq_eq_true c
    exact rs_251 h hb
  | false =>
    rw [c] at hb
    exact hb.elim
theorem rUfllrll_st {K : Nat → Nat} {n : Nat} {k : Nat} {vs : List jv} {j : Nat} {σ σ' : Nat → jcell} (h : ∀ a, a < n → ∀ q ∈ ra_dep.getD k [], q.1 = K a → aSm vs q (σ a) (σ' a)) (hb : rUfllrll K n k (vs.take j) σ) : rUfllrll K n k (vs.take j) σ' := by
  unfold rUfllrll at hb ⊢
  cases c : Nat.ble k 250 with
  | true =>
    rw [c] at hb
    exact rUfllrlll_st h hb
  | false =>
    rw [c] at hb
    exact rUfllrllr_st h hb
theorem rUfllrlrl_st {K : Nat → Nat} {n : Nat} {k : Nat} {vs : List jv} {j : Nat} {σ σ' : Nat → jcell} (h : ∀ a, a < n → ∀ q ∈ ra_dep.getD k [], q.1 = K a → aSm vs q (σ a) (σ' a)) (hb : rUfllrlrl K n k (vs.take j) σ) : rUfllrlrl K n k (vs.take j) σ' := by
  unfold rUfllrlrl at hb ⊢
  cases c : Nat.beq k 252 with
  | true =>
    rw [c] at hb
    obtain rfl := Nat.eq_of_beq_eq_true c
    exact rs_252 h hb
  | false =>
    rw [c] at hb
    exact hb.elim
theorem rUfllrlrrl_st {K : Nat → Nat} {n : Nat} {k : Nat} {vs : List jv} {j : Nat} {σ σ' : Nat → jcell} (h : ∀ a, a < n → ∀ q ∈ ra_dep.getD k [], q.1 = K a → aSm vs q (σ a) (σ' a)) (hb : rUfllrlrrl K n k (vs.take j) σ) : rUfllrlrrl K n k (vs.take j) σ' := by
  unfold rUfllrlrrl at hb ⊢
  cases c : Nat.beq k 253 with
  | true =>
    rw [c] at hb
    obtain rfl := Nat.eq_of_beq_eq_true c
    exact rs_253 h hb
  | false =>
    rw [c] at hb
    exact hb.elim
theorem rUfllrlrrr_st {K : Nat → Nat} {n : Nat} {k : Nat} {vs : List jv} {j : Nat} {σ σ' : Nat → jcell} (h : ∀ a, a < n → ∀ q ∈ ra_dep.getD k [], q.1 = K a → aSm vs q (σ a) (σ' a)) (hb : rUfllrlrrr K n k (vs.take j) σ) : rUfllrlrrr K n k (vs.take j) σ' := by
  unfold rUfllrlrrr at hb ⊢
  cases c : Nat.beq k 254 with
  | true =>
    rw [c] at hb
    obtain rfl := Nat.eq_of_beq_eq_true c
    exact rs_254 h hb
  | false =>
    rw [c] at hb
    exact hb.elim
theorem rUfllrlrr_st {K : Nat → Nat} {n : Nat} {k : Nat} {vs : List jv} {j : Nat} {σ σ' : Nat → jcell} (h : ∀ a, a < n → ∀ q ∈ ra_dep.getD k [], q.1 = K a → aSm vs q (σ a) (σ' a)) (hb : rUfllrlrr K n k (vs.take j) σ) : rUfllrlrr K n k (vs.take j) σ' := by
  unfold rUfllrlrr at hb ⊢
  cases c : Nat.ble k 253 with
  | true =>
    rw [c] at hb
    exact rUfllrlrrl_st h hb
  | false =>
    rw [c] at hb
    exact rUfllrlrrr_st h hb
theorem rUfllrlr_st {K : Nat → Nat} {n : Nat} {k : Nat} {vs : List jv} {j : Nat} {σ σ' : Nat → jcell} (h : ∀ a, a < n → ∀ q ∈ ra_dep.getD k [], q.1 = K a → aSm vs q (σ a) (σ' a)) (hb : rUfllrlr K n k (vs.take j) σ) : rUfllrlr K n k (vs.take j) σ' := by
  unfold rUfllrlr at hb ⊢
  cases c : Nat.ble k 252 with
  | true =>
    rw [c] at hb
    exact rUfllrlrl_st h hb
  | false =>
    rw [c] at hb
    exact rUfllrlrr_st h hb
theorem rUfllrl_st {K : Nat → Nat} {n : Nat} {k : Nat} {vs : List jv} {j : Nat} {σ σ' : Nat → jcell} (h : ∀ a, a < n → ∀ q ∈ ra_dep.getD k [], q.1 = K a → aSm vs q (σ a) (σ' a)) (hb : rUfllrl K n k (vs.take j) σ) : rUfllrl K n k (vs.take j) σ' := by
  unfold rUfllrl at hb ⊢
  cases c : Nat.ble k 251 with
  | true =>
    rw [c] at hb
    exact rUfllrll_st h hb
  | false =>
    rw [c] at hb
    exact rUfllrlr_st h hb
theorem rUfllrrll_st {K : Nat → Nat} {n : Nat} {k : Nat} {vs : List jv} {j : Nat} {σ σ' : Nat → jcell} (h : ∀ a, a < n → ∀ q ∈ ra_dep.getD k [], q.1 = K a → aSm vs q (σ a) (σ' a)) (hb : rUfllrrll K n k (vs.take j) σ) : rUfllrrll K n k (vs.take j) σ' := by
  unfold rUfllrrll at hb ⊢
  cases c : Nat.beq k 255 with
  | true =>
    rw [c] at hb
    obtain rfl := Nat.eq_of_beq_eq_true c
    exact rs_255 h hb
  | false =>
    rw [c] at hb
    exact hb.elim
theorem rUfllrrlrl_st {K : Nat → Nat} {n : Nat} {k : Nat} {vs : List jv} {j : Nat} {σ σ' : Nat → jcell} (h : ∀ a, a < n → ∀ q ∈ ra_dep.getD k [], q.1 = K a → aSm vs q (σ a) (σ' a)) (hb : rUfllrrlrl K n k (vs.take j) σ) : rUfllrrlrl K n k (vs.take j) σ' := by
  unfold rUfllrrlrl at hb ⊢
  cases c : Nat.beq k 256 with
  | true =>
    rw [c] at hb
    obtain rfl := Nat.eq_of_beq_eq_true c
    exact rs_256 h hb
  | false =>
    rw [c] at hb
    exact hb.elim
theorem rUfllrrlrr_st {K : Nat → Nat} {n : Nat} {k : Nat} {vs : List jv} {j : Nat} {σ σ' : Nat → jcell} (h : ∀ a, a < n → ∀ q ∈ ra_dep.getD k [], q.1 = K a → aSm vs q (σ a) (σ' a)) (hb : rUfllrrlrr K n k (vs.take j) σ) : rUfllrrlrr K n k (vs.take j) σ' := by
  unfold rUfllrrlrr at hb ⊢
  cases c : Nat.beq k 257 with
  | true =>
    rw [c] at hb
    obtain rfl := Nat.eq_of_beq_eq_true c
    exact rs_257 h hb
  | false =>
    rw [c] at hb
    exact hb.elim
theorem rUfllrrlr_st {K : Nat → Nat} {n : Nat} {k : Nat} {vs : List jv} {j : Nat} {σ σ' : Nat → jcell} (h : ∀ a, a < n → ∀ q ∈ ra_dep.getD k [], q.1 = K a → aSm vs q (σ a) (σ' a)) (hb : rUfllrrlr K n k (vs.take j) σ) : rUfllrrlr K n k (vs.take j) σ' := by
  unfold rUfllrrlr at hb ⊢
  cases c : Nat.ble k 256 with
  | true =>
    rw [c] at hb
    exact rUfllrrlrl_st h hb
  | false =>
    rw [c] at hb
    exact rUfllrrlrr_st h hb
theorem rUfllrrl_st {K : Nat → Nat} {n : Nat} {k : Nat} {vs : List jv} {j : Nat} {σ σ' : Nat → jcell} (h : ∀ a, a < n → ∀ q ∈ ra_dep.getD k [], q.1 = K a → aSm vs q (σ a) (σ' a)) (hb : rUfllrrl K n k (vs.take j) σ) : rUfllrrl K n k (vs.take j) σ' := by
  unfold rUfllrrl at hb ⊢
  cases c : Nat.ble k 255 with
  | true =>
    rw [c] at hb
    exact rUfllrrll_st h hb
  | false =>
    rw [c] at hb
    exact rUfllrrlr_st h hb
theorem rUfllrrrl_st {K : Nat → Nat} {n : Nat} {k : Nat} {vs : List jv} {j : Nat} {σ σ' : Nat → jcell} (h : ∀ a, a < n → ∀ q ∈ ra_dep.getD k [], q.1 = K a → aSm vs q (σ a) (σ' a)) (hb : rUfllrrrl K n k (vs.take j) σ) : rUfllrrrl K n k (vs.take j) σ' := by
  unfold rUfllrrrl at hb ⊢
  cases c : Nat.beq k 258 with
  | true =>
    rw [c] at hb
    obtain rfl := Nat.eq_of_beq_eq_true c
    exact rs_258 h hb
  | false =>
    rw [c] at hb
    exact hb.elim
theorem rUfllrrrrl_st {K : Nat → Nat} {n : Nat} {k : Nat} {vs : List jv} {j : Nat} {σ σ' : Nat → jcell} (h : ∀ a, a < n → ∀ q ∈ ra_dep.getD k [], q.1 = K a → aSm vs q (σ a) (σ' a)) (hb : rUfllrrrrl K n k (vs.take j) σ) : rUfllrrrrl K n k (vs.take j) σ' := by
  unfold rUfllrrrrl at hb ⊢
  cases c : Nat.beq k 259 with
  | true =>
    rw [c] at hb
    obtain rfl := Nat.eq_of_beq_eq_true c
    exact rs_259 h hb
  | false =>
    rw [c] at hb
    exact hb.elim
theorem rUfllrrrrr_st {K : Nat → Nat} {n : Nat} {k : Nat} {vs : List jv} {j : Nat} {σ σ' : Nat → jcell} (h : ∀ a, a < n → ∀ q ∈ ra_dep.getD k [], q.1 = K a → aSm vs q (σ a) (σ' a)) (hb : rUfllrrrrr K n k (vs.take j) σ) : rUfllrrrrr K n k (vs.take j) σ' := by
  unfold rUfllrrrrr at hb ⊢
  cases c : Nat.beq k 260 with
  | true =>
    rw [c] at hb
    obtain rfl := Nat.eq_of_beq_eq_true c
    exact rs_260 h hb
  | false =>
    rw [c] at hb
    exact hb.elim
theorem rUfllrrrr_st {K : Nat → Nat} {n : Nat} {k : Nat} {vs : List jv} {j : Nat} {σ σ' : Nat → jcell} (h : ∀ a, a < n → ∀ q ∈ ra_dep.getD k [], q.1 = K a → aSm vs q (σ a) (σ' a)) (hb : rUfllrrrr K n k (vs.take j) σ) : rUfllrrrr K n k (vs.take j) σ' := by
  unfold rUfllrrrr at hb ⊢
  cases c : Nat.ble k 259 with
  | true =>
    rw [c] at hb
    exact rUfllrrrrl_st h hb
  | false =>
    rw [c] at hb
    exact rUfllrrrrr_st h hb
theorem rUfllrrr_st {K : Nat → Nat} {n : Nat} {k : Nat} {vs : List jv} {j : Nat} {σ σ' : Nat → jcell} (h : ∀ a, a < n → ∀ q ∈ ra_dep.getD k [], q.1 = K a → aSm vs q (σ a) (σ' a)) (hb : rUfllrrr K n k (vs.take j) σ) : rUfllrrr K n k (vs.take j) σ' := by
  unfold rUfllrrr at hb ⊢
  cases c : Nat.ble k 258 with
  | true =>
    rw [c] at hb
    exact rUfllrrrl_st h hb
  | false =>
    rw [c] at hb
    exact rUfllrrrr_st h hb
theorem rUfllrr_st {K : Nat → Nat} {n : Nat} {k : Nat} {vs : List jv} {j : Nat} {σ σ' : Nat → jcell} (h : ∀ a, a < n → ∀ q ∈ ra_dep.getD k [], q.1 = K a → aSm vs q (σ a) (σ' a)) (hb : rUfllrr K n k (vs.take j) σ) : rUfllrr K n k (vs.take j) σ' := by
  unfold rUfllrr at hb ⊢
  cases c : Nat.ble k 257 with
  | true =>
    rw [c] at hb
    exact rUfllrrl_st h hb
  | false =>
    rw [c] at hb
    exact rUfllrrr_st h hb
theorem rUfllr_st {K : Nat → Nat} {n : Nat} {k : Nat} {vs : List jv} {j : Nat} {σ σ' : Nat → jcell} (h : ∀ a, a < n → ∀ q ∈ ra_dep.getD k [], q.1 = K a → aSm vs q (σ a) (σ' a)) (hb : rUfllr K n k (vs.take j) σ) : rUfllr K n k (vs.take j) σ' := by
  unfold rUfllr at hb ⊢
  cases c : Nat.ble k 254 with
  | true =>
    rw [c] at hb
    exact rUfllrl_st h hb
  | false =>
    rw [c] at hb
    exact rUfllrr_st h hb
theorem rUfll_st {K : Nat → Nat} {n : Nat} {k : Nat} {vs : List jv} {j : Nat} {σ σ' : Nat → jcell} (h : ∀ a, a < n → ∀ q ∈ ra_dep.getD k [], q.1 = K a → aSm vs q (σ a) (σ' a)) (hb : rUfll K n k (vs.take j) σ) : rUfll K n k (vs.take j) σ' := by
  unfold rUfll at hb ⊢
  cases c : Nat.ble k 249 with
  | true =>
    rw [c] at hb
    exact rUflll_st h hb
  | false =>
    rw [c] at hb
    exact rUfllr_st h hb
theorem rUflrllll_st {K : Nat → Nat} {n : Nat} {k : Nat} {vs : List jv} {j : Nat} {σ σ' : Nat → jcell} (h : ∀ a, a < n → ∀ q ∈ ra_dep.getD k [], q.1 = K a → aSm vs q (σ a) (σ' a)) (hb : rUflrllll K n k (vs.take j) σ) : rUflrllll K n k (vs.take j) σ' := by
  unfold rUflrllll at hb ⊢
  cases c : Nat.beq k 261 with
  | true =>
    rw [c] at hb
    obtain rfl := Nat.eq_of_beq_eq_true c
    exact rs_261 h hb
  | false =>
    rw [c] at hb
    exact hb.elim
theorem rUflrlllr_st {K : Nat → Nat} {n : Nat} {k : Nat} {vs : List jv} {j : Nat} {σ σ' : Nat → jcell} (h : ∀ a, a < n → ∀ q ∈ ra_dep.getD k [], q.1 = K a → aSm vs q (σ a) (σ' a)) (hb : rUflrlllr K n k (vs.take j) σ) : rUflrlllr K n k (vs.take j) σ' := by
  unfold rUflrlllr at hb ⊢
  cases c : Nat.beq k 262 with
  | true =>
    rw [c] at hb
    obtain rfl := Nat.eq_of_beq_eq_true c
    exact rs_262 h hb
  | false =>
    rw [c] at hb
    exact hb.elim
theorem rUflrlll_st {K : Nat → Nat} {n : Nat} {k : Nat} {vs : List jv} {j : Nat} {σ σ' : Nat → jcell} (h : ∀ a, a < n → ∀ q ∈ ra_dep.getD k [], q.1 = K a → aSm vs q (σ a) (σ' a)) (hb : rUflrlll K n k (vs.take j) σ) : rUflrlll K n k (vs.take j) σ' := by
  unfold rUflrlll at hb ⊢
  cases c : Nat.ble k 261 with
  | true =>
    rw [c] at hb
    exact rUflrllll_st h hb
  | false =>
    rw [c] at hb
    exact rUflrlllr_st h hb
theorem rUflrllrl_st {K : Nat → Nat} {n : Nat} {k : Nat} {vs : List jv} {j : Nat} {σ σ' : Nat → jcell} (h : ∀ a, a < n → ∀ q ∈ ra_dep.getD k [], q.1 = K a → aSm vs q (σ a) (σ' a)) (hb : rUflrllrl K n k (vs.take j) σ) : rUflrllrl K n k (vs.take j) σ' := by
  unfold rUflrllrl at hb ⊢
  cases c : Nat.beq k 263 with
  | true =>
    rw [c] at hb
    obtain rfl := Nat.eq_of_beq_eq_true c
    exact rs_263 h hb
  | false =>
    rw [c] at hb
    exact hb.elim
theorem rUflrllrrl_st {K : Nat → Nat} {n : Nat} {k : Nat} {vs : List jv} {j : Nat} {σ σ' : Nat → jcell} (h : ∀ a, a < n → ∀ q ∈ ra_dep.getD k [], q.1 = K a → aSm vs q (σ a) (σ' a)) (hb : rUflrllrrl K n k (vs.take j) σ) : rUflrllrrl K n k (vs.take j) σ' := by
  unfold rUflrllrrl at hb ⊢
  cases c : Nat.beq k 264 with
  | true =>
    rw [c] at hb
    obtain rfl := Nat.eq_of_beq_eq_true c
    exact rs_264 h hb
  | false =>
    rw [c] at hb
    exact hb.elim
theorem rUflrllrrr_st {K : Nat → Nat} {n : Nat} {k : Nat} {vs : List jv} {j : Nat} {σ σ' : Nat → jcell} (h : ∀ a, a < n → ∀ q ∈ ra_dep.getD k [], q.1 = K a → aSm vs q (σ a) (σ' a)) (hb : rUflrllrrr K n k (vs.take j) σ) : rUflrllrrr K n k (vs.take j) σ' := by
  unfold rUflrllrrr at hb ⊢
  cases c : Nat.beq k 266 with
  | true =>
    rw [c] at hb
    obtain rfl := Nat.eq_of_beq_eq_true c
    exact rs_266 h hb
  | false =>
    rw [c] at hb
    exact hb.elim
theorem rUflrllrr_st {K : Nat → Nat} {n : Nat} {k : Nat} {vs : List jv} {j : Nat} {σ σ' : Nat → jcell} (h : ∀ a, a < n → ∀ q ∈ ra_dep.getD k [], q.1 = K a → aSm vs q (σ a) (σ' a)) (hb : rUflrllrr K n k (vs.take j) σ) : rUflrllrr K n k (vs.take j) σ' := by
  unfold rUflrllrr at hb ⊢
  cases c : Nat.ble k 264 with
  | true =>
    rw [c] at hb
    exact rUflrllrrl_st h hb
  | false =>
    rw [c] at hb
    exact rUflrllrrr_st h hb
theorem rUflrllr_st {K : Nat → Nat} {n : Nat} {k : Nat} {vs : List jv} {j : Nat} {σ σ' : Nat → jcell} (h : ∀ a, a < n → ∀ q ∈ ra_dep.getD k [], q.1 = K a → aSm vs q (σ a) (σ' a)) (hb : rUflrllr K n k (vs.take j) σ) : rUflrllr K n k (vs.take j) σ' := by
  unfold rUflrllr at hb ⊢
  cases c : Nat.ble k 263 with
  | true =>
    rw [c] at hb
    exact rUflrllrl_st h hb
  | false =>
    rw [c] at hb
    exact rUflrllrr_st h hb
theorem rUflrll_st {K : Nat → Nat} {n : Nat} {k : Nat} {vs : List jv} {j : Nat} {σ σ' : Nat → jcell} (h : ∀ a, a < n → ∀ q ∈ ra_dep.getD k [], q.1 = K a → aSm vs q (σ a) (σ' a)) (hb : rUflrll K n k (vs.take j) σ) : rUflrll K n k (vs.take j) σ' := by
  unfold rUflrll at hb ⊢
  cases c : Nat.ble k 262 with
  | true =>
    rw [c] at hb
    exact rUflrlll_st h hb
  | false =>
    rw [c] at hb
    exact rUflrllr_st h hb
theorem rUflrlrll_st {K : Nat → Nat} {n : Nat} {k : Nat} {vs : List jv} {j : Nat} {σ σ' : Nat → jcell} (h : ∀ a, a < n → ∀ q ∈ ra_dep.getD k [], q.1 = K a → aSm vs q (σ a) (σ' a)) (hb : rUflrlrll K n k (vs.take j) σ) : rUflrlrll K n k (vs.take j) σ' := by
  unfold rUflrlrll at hb ⊢
  cases c : Nat.beq k 270 with
  | true =>
    rw [c] at hb
    obtain rfl := Nat.eq_of_beq_eq_true c
    exact rs_270 h hb
  | false =>
    rw [c] at hb
    exact hb.elim
theorem rUflrlrlrl_st {K : Nat → Nat} {n : Nat} {k : Nat} {vs : List jv} {j : Nat} {σ σ' : Nat → jcell} (h : ∀ a, a < n → ∀ q ∈ ra_dep.getD k [], q.1 = K a → aSm vs q (σ a) (σ' a)) (hb : rUflrlrlrl K n k (vs.take j) σ) : rUflrlrlrl K n k (vs.take j) σ' := by
  unfold rUflrlrlrl at hb ⊢
  cases c : Nat.beq k 271 with
  | true =>
    rw [c] at hb
    obtain rfl := Nat.eq_of_beq_eq_true c
    exact rs_271 h hb
  | false =>
    rw [c] at hb
    exact hb.elim
theorem rUflrlrlrr_st {K : Nat → Nat} {n : Nat} {k : Nat} {vs : List jv} {j : Nat} {σ σ' : Nat → jcell} (h : ∀ a, a < n → ∀ q ∈ ra_dep.getD k [], q.1 = K a → aSm vs q (σ a) (σ' a)) (hb : rUflrlrlrr K n k (vs.take j) σ) : rUflrlrlrr K n k (vs.take j) σ' := by
  unfold rUflrlrlrr at hb ⊢
  cases c : Nat.beq k 276 with
  | true =>
    rw [c] at hb
    obtain rfl := Nat.eq_of_beq_eq_true c
    exact rs_276 h hb
  | false =>
    rw [c] at hb
    exact hb.elim
theorem rUflrlrlr_st {K : Nat → Nat} {n : Nat} {k : Nat} {vs : List jv} {j : Nat} {σ σ' : Nat → jcell} (h : ∀ a, a < n → ∀ q ∈ ra_dep.getD k [], q.1 = K a → aSm vs q (σ a) (σ' a)) (hb : rUflrlrlr K n k (vs.take j) σ) : rUflrlrlr K n k (vs.take j) σ' := by
  unfold rUflrlrlr at hb ⊢
  cases c : Nat.ble k 271 with
  | true =>
    rw [c] at hb
    exact rUflrlrlrl_st h hb
  | false =>
    rw [c] at hb
    exact rUflrlrlrr_st h hb
theorem rUflrlrl_st {K : Nat → Nat} {n : Nat} {k : Nat} {vs : List jv} {j : Nat} {σ σ' : Nat → jcell} (h : ∀ a, a < n → ∀ q ∈ ra_dep.getD k [], q.1 = K a → aSm vs q (σ a) (σ' a)) (hb : rUflrlrl K n k (vs.take j) σ) : rUflrlrl K n k (vs.take j) σ' := by
  unfold rUflrlrl at hb ⊢
  cases c : Nat.ble k 270 with
  | true =>
    rw [c] at hb
    exact rUflrlrll_st h hb
  | false =>
    rw [c] at hb
    exact rUflrlrlr_st h hb
theorem rUflrlrrl_st {K : Nat → Nat} {n : Nat} {k : Nat} {vs : List jv} {j : Nat} {σ σ' : Nat → jcell} (h : ∀ a, a < n → ∀ q ∈ ra_dep.getD k [], q.1 = K a → aSm vs q (σ a) (σ' a)) (hb : rUflrlrrl K n k (vs.take j) σ) : rUflrlrrl K n k (vs.take j) σ' := by
  unfold rUflrlrrl at hb ⊢
  cases c : Nat.beq k 277 with
  | true =>
    rw [c] at hb
    obtain rfl := Nat.eq_of_beq_eq_true c
    exact rs_277 h hb
  | false =>
    rw [c] at hb
    exact hb.elim
theorem rUflrlrrrl_st {K : Nat → Nat} {n : Nat} {k : Nat} {vs : List jv} {j : Nat} {σ σ' : Nat → jcell} (h : ∀ a, a < n → ∀ q ∈ ra_dep.getD k [], q.1 = K a → aSm vs q (σ a) (σ' a)) (hb : rUflrlrrrl K n k (vs.take j) σ) : rUflrlrrrl K n k (vs.take j) σ' := by
  unfold rUflrlrrrl at hb ⊢
  cases c : Nat.beq k 278 with
  | true =>
    rw [c] at hb
    obtain rfl := Nat.eq_of_beq_eq_true c
    exact rs_278 h hb
  | false =>
    rw [c] at hb
    exact hb.elim
theorem rUflrlrrrr_st {K : Nat → Nat} {n : Nat} {k : Nat} {vs : List jv} {j : Nat} {σ σ' : Nat → jcell} (h : ∀ a, a < n → ∀ q ∈ ra_dep.getD k [], q.1 = K a → aSm vs q (σ a) (σ' a)) (hb : rUflrlrrrr K n k (vs.take j) σ) : rUflrlrrrr K n k (vs.take j) σ' := by
  unfold rUflrlrrrr at hb ⊢
  cases c : Nat.beq k 279 with
  | true =>
    rw [c] at hb
    obtain rfl := Nat.eq_of_beq_eq_true c
    exact rs_279 h hb
  | false =>
    rw [c] at hb
    exact hb.elim
theorem rUflrlrrr_st {K : Nat → Nat} {n : Nat} {k : Nat} {vs : List jv} {j : Nat} {σ σ' : Nat → jcell} (h : ∀ a, a < n → ∀ q ∈ ra_dep.getD k [], q.1 = K a → aSm vs q (σ a) (σ' a)) (hb : rUflrlrrr K n k (vs.take j) σ) : rUflrlrrr K n k (vs.take j) σ' := by
  unfold rUflrlrrr at hb ⊢
  cases c : Nat.ble k 278 with
  | true =>
    rw [c] at hb
    exact rUflrlrrrl_st h hb
  | false =>
    rw [c] at hb
    exact rUflrlrrrr_st h hb
theorem rUflrlrr_st {K : Nat → Nat} {n : Nat} {k : Nat} {vs : List jv} {j : Nat} {σ σ' : Nat → jcell} (h : ∀ a, a < n → ∀ q ∈ ra_dep.getD k [], q.1 = K a → aSm vs q (σ a) (σ' a)) (hb : rUflrlrr K n k (vs.take j) σ) : rUflrlrr K n k (vs.take j) σ' := by
  unfold rUflrlrr at hb ⊢
  cases c : Nat.ble k 277 with
  | true =>
    rw [c] at hb
    exact rUflrlrrl_st h hb
  | false =>
    rw [c] at hb
    exact rUflrlrrr_st h hb
theorem rUflrlr_st {K : Nat → Nat} {n : Nat} {k : Nat} {vs : List jv} {j : Nat} {σ σ' : Nat → jcell} (h : ∀ a, a < n → ∀ q ∈ ra_dep.getD k [], q.1 = K a → aSm vs q (σ a) (σ' a)) (hb : rUflrlr K n k (vs.take j) σ) : rUflrlr K n k (vs.take j) σ' := by
  unfold rUflrlr at hb ⊢
  cases c : Nat.ble k 276 with
  | true =>
    rw [c] at hb
    exact rUflrlrl_st h hb
  | false =>
    rw [c] at hb
    exact rUflrlrr_st h hb
theorem rUflrl_st {K : Nat → Nat} {n : Nat} {k : Nat} {vs : List jv} {j : Nat} {σ σ' : Nat → jcell} (h : ∀ a, a < n → ∀ q ∈ ra_dep.getD k [], q.1 = K a → aSm vs q (σ a) (σ' a)) (hb : rUflrl K n k (vs.take j) σ) : rUflrl K n k (vs.take j) σ' := by
  unfold rUflrl at hb ⊢
  cases c : Nat.ble k 266 with
  | true =>
    rw [c] at hb
    exact rUflrll_st h hb
  | false =>
    rw [c] at hb
    exact rUflrlr_st h hb
theorem rUflrrlll_st {K : Nat → Nat} {n : Nat} {k : Nat} {vs : List jv} {j : Nat} {σ σ' : Nat → jcell} (h : ∀ a, a < n → ∀ q ∈ ra_dep.getD k [], q.1 = K a → aSm vs q (σ a) (σ' a)) (hb : rUflrrlll K n k (vs.take j) σ) : rUflrrlll K n k (vs.take j) σ' := by
  unfold rUflrrlll at hb ⊢
  cases c : Nat.beq k 280 with
  | true =>
    rw [c] at hb
    obtain rfl := Nat.eq_of_beq_eq_true c
    exact rs_280 h hb
  | false =>
    rw [c] at hb
    exact hb.elim
theorem rUflrrllr_st {K : Nat → Nat} {n : Nat} {k : Nat} {vs : List jv} {j : Nat} {σ σ' : Nat → jcell} (h : ∀ a, a < n → ∀ q ∈ ra_dep.getD k [], q.1 = K a → aSm vs q (σ a) (σ' a)) (hb : rUflrrllr K n k (vs.take j) σ) : rUflrrllr K n k (vs.take j) σ' := by
  unfold rUflrrllr at hb ⊢
  cases c : Nat.beq k 281 with
  | true =>
    rw [c] at hb
    obtain rfl := Nat.eq_of_beq_eq_true c
    exact rs_281 h hb
  | false =>
    rw [c] at hb
    exact hb.elim
theorem rUflrrll_st {K : Nat → Nat} {n : Nat} {k : Nat} {vs : List jv} {j : Nat} {σ σ' : Nat → jcell} (h : ∀ a, a < n → ∀ q ∈ ra_dep.getD k [], q.1 = K a → aSm vs q (σ a) (σ' a)) (hb : rUflrrll K n k (vs.take j) σ) : rUflrrll K n k (vs.take j) σ' := by
  unfold rUflrrll at hb ⊢
  cases c : Nat.ble k 280 with
  | true =>
    rw [c] at hb
    exact rUflrrlll_st h hb
  | false =>
    rw [c] at hb
    exact rUflrrllr_st h hb
theorem rUflrrlrl_st {K : Nat → Nat} {n : Nat} {k : Nat} {vs : List jv} {j : Nat} {σ σ' : Nat → jcell} (h : ∀ a, a < n → ∀ q ∈ ra_dep.getD k [], q.1 = K a → aSm vs q (σ a) (σ' a)) (hb : rUflrrlrl K n k (vs.take j) σ) : rUflrrlrl K n k (vs.take j) σ' := by
  unfold rUflrrlrl at hb ⊢
  cases c : Nat.beq k 282 with
  | true =>
    rw [c] at hb
    obtain rfl := Nat.eq_of_beq_eq_true c
    exact rs_282 h hb
  | false =>
    rw [c] at hb
    exact hb.elim
theorem rUflrrlrrl_st {K : Nat → Nat} {n : Nat} {k : Nat} {vs : List jv} {j : Nat} {σ σ' : Nat → jcell} (h : ∀ a, a < n → ∀ q ∈ ra_dep.getD k [], q.1 = K a → aSm vs q (σ a) (σ' a)) (hb : rUflrrlrrl K n k (vs.take j) σ) : rUflrrlrrl K n k (vs.take j) σ' := by
  unfold rUflrrlrrl at hb ⊢
  cases c : Nat.beq k 283 with
  | true =>
    rw [c] at hb
    obtain rfl := Nat.eq_of_beq_eq_true c
    exact rs_283 h hb
  | false =>
    rw [c] at hb
    exact hb.elim
theorem rUflrrlrrr_st {K : Nat → Nat} {n : Nat} {k : Nat} {vs : List jv} {j : Nat} {σ σ' : Nat → jcell} (h : ∀ a, a < n → ∀ q ∈ ra_dep.getD k [], q.1 = K a → aSm vs q (σ a) (σ' a)) (hb : rUflrrlrrr K n k (vs.take j) σ) : rUflrrlrrr K n k (vs.take j) σ' := by
  unfold rUflrrlrrr at hb ⊢
  cases c : Nat.beq k 284 with
  | true =>
    rw [c] at hb
    obtain rfl := Nat.eq_of_beq_eq_true c
    exact rs_284 h hb
  | false =>
    rw [c] at hb
    exact hb.elim
theorem rUflrrlrr_st {K : Nat → Nat} {n : Nat} {k : Nat} {vs : List jv} {j : Nat} {σ σ' : Nat → jcell} (h : ∀ a, a < n → ∀ q ∈ ra_dep.getD k [], q.1 = K a → aSm vs q (σ a) (σ' a)) (hb : rUflrrlrr K n k (vs.take j) σ) : rUflrrlrr K n k (vs.take j) σ' := by
  unfold rUflrrlrr at hb ⊢
  cases c : Nat.ble k 283 with
  | true =>
    rw [c] at hb
    exact rUflrrlrrl_st h hb
  | false =>
    rw [c] at hb
    exact rUflrrlrrr_st h hb
theorem rUflrrlr_st {K : Nat → Nat} {n : Nat} {k : Nat} {vs : List jv} {j : Nat} {σ σ' : Nat → jcell} (h : ∀ a, a < n → ∀ q ∈ ra_dep.getD k [], q.1 = K a → aSm vs q (σ a) (σ' a)) (hb : rUflrrlr K n k (vs.take j) σ) : rUflrrlr K n k (vs.take j) σ' := by
  unfold rUflrrlr at hb ⊢
  cases c : Nat.ble k 282 with
  | true =>
    rw [c] at hb
    exact rUflrrlrl_st h hb
  | false =>
    rw [c] at hb
    exact rUflrrlrr_st h hb
theorem rUflrrl_st {K : Nat → Nat} {n : Nat} {k : Nat} {vs : List jv} {j : Nat} {σ σ' : Nat → jcell} (h : ∀ a, a < n → ∀ q ∈ ra_dep.getD k [], q.1 = K a → aSm vs q (σ a) (σ' a)) (hb : rUflrrl K n k (vs.take j) σ) : rUflrrl K n k (vs.take j) σ' := by
  unfold rUflrrl at hb ⊢
  cases c : Nat.ble k 281 with
  | true =>
    rw [c] at hb
    exact rUflrrll_st h hb
  | false =>
    rw [c] at hb
    exact rUflrrlr_st h hb
theorem rUflrrrll_st {K : Nat → Nat} {n : Nat} {k : Nat} {vs : List jv} {j : Nat} {σ σ' : Nat → jcell} (h : ∀ a, a < n → ∀ q ∈ ra_dep.getD k [], q.1 = K a → aSm vs q (σ a) (σ' a)) (hb : rUflrrrll K n k (vs.take j) σ) : rUflrrrll K n k (vs.take j) σ' := by
  unfold rUflrrrll at hb ⊢
  cases c : Nat.beq k 285 with
  | true =>
    rw [c] at hb
    obtain rfl := Nat.eq_of_beq_eq_true c
    exact rs_285 h hb
  | false =>
    rw [c] at hb
    exact hb.elim
theorem rUflrrrlrl_st {K : Nat → Nat} {n : Nat} {k : Nat} {vs : List jv} {j : Nat} {σ σ' : Nat → jcell} (h : ∀ a, a < n → ∀ q ∈ ra_dep.getD k [], q.1 = K a → aSm vs q (σ a) (σ' a)) (hb : rUflrrrlrl K n k (vs.take j) σ) : rUflrrrlrl K n k (vs.take j) σ' := by
  unfold rUflrrrlrl at hb ⊢
  cases c : Nat.beq k 286 with
  | true =>
    rw [c] at hb
    obtain rfl := Nat.eq_of_beq_eq_true c
    exact rs_286 h hb
  | false =>
    rw [c] at hb
    exact hb.elim
theorem rUflrrrlrr_st {K : Nat → Nat} {n : Nat} {k : Nat} {vs : List jv} {j : Nat} {σ σ' : Nat → jcell} (h : ∀ a, a < n → ∀ q ∈ ra_dep.getD k [], q.1 = K a → aSm vs q (σ a) (σ' a)) (hb : rUflrrrlrr K n k (vs.take j) σ) : rUflrrrlrr K n k (vs.take j) σ' := by
  unfold rUflrrrlrr at hb ⊢
  cases c : Nat.beq k 287 with
  | true =>
    rw [c] at hb
    obtain rfl := Nat.eq_of_beq_eq_true c
    exact rs_287 h hb
  | false =>
    rw [c] at hb
    exact hb.elim
theorem rUflrrrlr_st {K : Nat → Nat} {n : Nat} {k : Nat} {vs : List jv} {j : Nat} {σ σ' : Nat → jcell} (h : ∀ a, a < n → ∀ q ∈ ra_dep.getD k [], q.1 = K a → aSm vs q (σ a) (σ' a)) (hb : rUflrrrlr K n k (vs.take j) σ) : rUflrrrlr K n k (vs.take j) σ' := by
  unfold rUflrrrlr at hb ⊢
  cases c : Nat.ble k 286 with
  | true =>
    rw [c] at hb
    exact rUflrrrlrl_st h hb
  | false =>
    rw [c] at hb
    exact rUflrrrlrr_st h hb
theorem rUflrrrl_st {K : Nat → Nat} {n : Nat} {k : Nat} {vs : List jv} {j : Nat} {σ σ' : Nat → jcell} (h : ∀ a, a < n → ∀ q ∈ ra_dep.getD k [], q.1 = K a → aSm vs q (σ a) (σ' a)) (hb : rUflrrrl K n k (vs.take j) σ) : rUflrrrl K n k (vs.take j) σ' := by
  unfold rUflrrrl at hb ⊢
  cases c : Nat.ble k 285 with
  | true =>
    rw [c] at hb
    exact rUflrrrll_st h hb
  | false =>
    rw [c] at hb
    exact rUflrrrlr_st h hb
theorem rUflrrrrl_st {K : Nat → Nat} {n : Nat} {k : Nat} {vs : List jv} {j : Nat} {σ σ' : Nat → jcell} (h : ∀ a, a < n → ∀ q ∈ ra_dep.getD k [], q.1 = K a → aSm vs q (σ a) (σ' a)) (hb : rUflrrrrl K n k (vs.take j) σ) : rUflrrrrl K n k (vs.take j) σ' := by
  unfold rUflrrrrl at hb ⊢
  cases c : Nat.beq k 288 with
  | true =>
    rw [c] at hb
    obtain rfl := Nat.eq_of_beq_eq_true c
    exact rs_288 h hb
  | false =>
    rw [c] at hb
    exact hb.elim
theorem rUflrrrrrl_st {K : Nat → Nat} {n : Nat} {k : Nat} {vs : List jv} {j : Nat} {σ σ' : Nat → jcell} (h : ∀ a, a < n → ∀ q ∈ ra_dep.getD k [], q.1 = K a → aSm vs q (σ a) (σ' a)) (hb : rUflrrrrrl K n k (vs.take j) σ) : rUflrrrrrl K n k (vs.take j) σ' := by
  unfold rUflrrrrrl at hb ⊢
  cases c : Nat.beq k 289 with
  | true =>
    rw [c] at hb
    obtain rfl := Nat.eq_of_beq_eq_true c
    exact rs_289 h hb
  | false =>
    rw [c] at hb
    exact hb.elim
theorem rUflrrrrrr_st {K : Nat → Nat} {n : Nat} {k : Nat} {vs : List jv} {j : Nat} {σ σ' : Nat → jcell} (h : ∀ a, a < n → ∀ q ∈ ra_dep.getD k [], q.1 = K a → aSm vs q (σ a) (σ' a)) (hb : rUflrrrrrr K n k (vs.take j) σ) : rUflrrrrrr K n k (vs.take j) σ' := by
  unfold rUflrrrrrr at hb ⊢
  cases c : Nat.beq k 290 with
  | true =>
    rw [c] at hb
    obtain rfl := Nat.eq_of_beq_eq_true c
    exact rs_290 h hb
  | false =>
    rw [c] at hb
    exact hb.elim
theorem rUflrrrrr_st {K : Nat → Nat} {n : Nat} {k : Nat} {vs : List jv} {j : Nat} {σ σ' : Nat → jcell} (h : ∀ a, a < n → ∀ q ∈ ra_dep.getD k [], q.1 = K a → aSm vs q (σ a) (σ' a)) (hb : rUflrrrrr K n k (vs.take j) σ) : rUflrrrrr K n k (vs.take j) σ' := by
  unfold rUflrrrrr at hb ⊢
  cases c : Nat.ble k 289 with
  | true =>
    rw [c] at hb
    exact rUflrrrrrl_st h hb
  | false =>
    rw [c] at hb
    exact rUflrrrrrr_st h hb
theorem rUflrrrr_st {K : Nat → Nat} {n : Nat} {k : Nat} {vs : List jv} {j : Nat} {σ σ' : Nat → jcell} (h : ∀ a, a < n → ∀ q ∈ ra_dep.getD k [], q.1 = K a → aSm vs q (σ a) (σ' a)) (hb : rUflrrrr K n k (vs.take j) σ) : rUflrrrr K n k (vs.take j) σ' := by
  unfold rUflrrrr at hb ⊢
  cases c : Nat.ble k 288 with
  | true =>
    rw [c] at hb
    exact rUflrrrrl_st h hb
  | false =>
    rw [c] at hb
    exact rUflrrrrr_st h hb
theorem rUflrrr_st {K : Nat → Nat} {n : Nat} {k : Nat} {vs : List jv} {j : Nat} {σ σ' : Nat → jcell} (h : ∀ a, a < n → ∀ q ∈ ra_dep.getD k [], q.1 = K a → aSm vs q (σ a) (σ' a)) (hb : rUflrrr K n k (vs.take j) σ) : rUflrrr K n k (vs.take j) σ' := by
  unfold rUflrrr at hb ⊢
  cases c : Nat.ble k 287 with
  | true =>
    rw [c] at hb
    exact rUflrrrl_st h hb
  | false =>
    rw [c] at hb
    exact rUflrrrr_st h hb
theorem rUflrr_st {K : Nat → Nat} {n : Nat} {k : Nat} {vs : List jv} {j : Nat} {σ σ' : Nat → jcell} (h : ∀ a, a < n → ∀ q ∈ ra_dep.getD k [], q.1 = K a → aSm vs q (σ a) (σ' a)) (hb : rUflrr K n k (vs.take j) σ) : rUflrr K n k (vs.take j) σ' := by
  unfold rUflrr at hb ⊢
  cases c : Nat.ble k 284 with
  | true =>
    rw [c] at hb
    exact rUflrrl_st h hb
  | false =>
    rw [c] at hb
    exact rUflrrr_st h hb
theorem rUflr_st {K : Nat → Nat} {n : Nat} {k : Nat} {vs : List jv} {j : Nat} {σ σ' : Nat → jcell} (h : ∀ a, a < n → ∀ q ∈ ra_dep.getD k [], q.1 = K a → aSm vs q (σ a) (σ' a)) (hb : rUflr K n k (vs.take j) σ) : rUflr K n k (vs.take j) σ' := by
  unfold rUflr at hb ⊢
  cases c : Nat.ble k 279 with
  | true =>
    rw [c] at hb
    exact rUflrl_st h hb
  | false =>
    rw [c] at hb
    exact rUflrr_st h hb
theorem rUfl_st {K : Nat → Nat} {n : Nat} {k : Nat} {vs : List jv} {j : Nat} {σ σ' : Nat → jcell} (h : ∀ a, a < n → ∀ q ∈ ra_dep.getD k [], q.1 = K a → aSm vs q (σ a) (σ' a)) (hb : rUfl K n k (vs.take j) σ) : rUfl K n k (vs.take j) σ' := by
  unfold rUfl at hb ⊢
  cases c : Nat.ble k 260 with
  | true =>
    rw [c] at hb
    exact rUfll_st h hb
  | false =>
    rw [c] at hb
    exact rUflr_st h hb
theorem rUfrlllll_st {K : Nat → Nat} {n : Nat} {k : Nat} {vs : List jv} {j : Nat} {σ σ' : Nat → jcell} (h : ∀ a, a < n → ∀ q ∈ ra_dep.getD k [], q.1 = K a → aSm vs q (σ a) (σ' a)) (hb : rUfrlllll K n k (vs.take j) σ) : rUfrlllll K n k (vs.take j) σ' := by
  unfold rUfrlllll at hb ⊢
  cases c : Nat.beq k 291 with
  | true =>
    rw [c] at hb
    obtain rfl := Nat.eq_of_beq_eq_true c
    exact rs_291 h hb
  | false =>
    rw [c] at hb
    exact hb.elim
theorem rUfrllllr_st {K : Nat → Nat} {n : Nat} {k : Nat} {vs : List jv} {j : Nat} {σ σ' : Nat → jcell} (h : ∀ a, a < n → ∀ q ∈ ra_dep.getD k [], q.1 = K a → aSm vs q (σ a) (σ' a)) (hb : rUfrllllr K n k (vs.take j) σ) : rUfrllllr K n k (vs.take j) σ' := by
  unfold rUfrllllr at hb ⊢
  cases c : Nat.beq k 300 with
  | true =>
    rw [c] at hb
    obtain rfl := Nat.eq_of_beq_eq_true c
    exact rs_300 h hb
  | false =>
    rw [c] at hb
    exact hb.elim
theorem rUfrllll_st {K : Nat → Nat} {n : Nat} {k : Nat} {vs : List jv} {j : Nat} {σ σ' : Nat → jcell} (h : ∀ a, a < n → ∀ q ∈ ra_dep.getD k [], q.1 = K a → aSm vs q (σ a) (σ' a)) (hb : rUfrllll K n k (vs.take j) σ) : rUfrllll K n k (vs.take j) σ' := by
  unfold rUfrllll at hb ⊢
  cases c : Nat.ble k 291 with
  | true =>
    rw [c] at hb
    exact rUfrlllll_st h hb
  | false =>
    rw [c] at hb
    exact rUfrllllr_st h hb
theorem rUfrlllrl_st {K : Nat → Nat} {n : Nat} {k : Nat} {vs : List jv} {j : Nat} {σ σ' : Nat → jcell} (h : ∀ a, a < n → ∀ q ∈ ra_dep.getD k [], q.1 = K a → aSm vs q (σ a) (σ' a)) (hb : rUfrlllrl K n k (vs.take j) σ) : rUfrlllrl K n k (vs.take j) σ' := by
  unfold rUfrlllrl at hb ⊢
  cases c : Nat.beq k 301 with
  | true =>
    rw [c] at hb
    obtain rfl := Nat.eq_of_beq_eq_true c
    exact rs_301 h hb
  | false =>
    rw [c] at hb
    exact hb.elim
theorem rUfrlllrrl_st {K : Nat → Nat} {n : Nat} {k : Nat} {vs : List jv} {j : Nat} {σ σ' : Nat → jcell} (h : ∀ a, a < n → ∀ q ∈ ra_dep.getD k [], q.1 = K a → aSm vs q (σ a) (σ' a)) (hb : rUfrlllrrl K n k (vs.take j) σ) : rUfrlllrrl K n k (vs.take j) σ' := by
  unfold rUfrlllrrl at hb ⊢
  cases c : Nat.beq k 302 with
  | true =>
    rw [c] at hb
    obtain rfl := Nat.eq_of_beq_eq_true c
    exact rs_302 h hb
  | false =>
    rw [c] at hb
    exact hb.elim
theorem rUfrlllrrr_st {K : Nat → Nat} {n : Nat} {k : Nat} {vs : List jv} {j : Nat} {σ σ' : Nat → jcell} (h : ∀ a, a < n → ∀ q ∈ ra_dep.getD k [], q.1 = K a → aSm vs q (σ a) (σ' a)) (hb : rUfrlllrrr K n k (vs.take j) σ) : rUfrlllrrr K n k (vs.take j) σ' := by
  unfold rUfrlllrrr at hb ⊢
  cases c : Nat.beq k 303 with
  | true =>
    rw [c] at hb
    obtain rfl := Nat.eq_of_beq_eq_true c
    exact rs_303 h hb
  | false =>
    rw [c] at hb
    exact hb.elim
theorem rUfrlllrr_st {K : Nat → Nat} {n : Nat} {k : Nat} {vs : List jv} {j : Nat} {σ σ' : Nat → jcell} (h : ∀ a, a < n → ∀ q ∈ ra_dep.getD k [], q.1 = K a → aSm vs q (σ a) (σ' a)) (hb : rUfrlllrr K n k (vs.take j) σ) : rUfrlllrr K n k (vs.take j) σ' := by
  unfold rUfrlllrr at hb ⊢
  cases c : Nat.ble k 302 with
  | true =>
    rw [c] at hb
    exact rUfrlllrrl_st h hb
  | false =>
    rw [c] at hb
    exact rUfrlllrrr_st h hb
theorem rUfrlllr_st {K : Nat → Nat} {n : Nat} {k : Nat} {vs : List jv} {j : Nat} {σ σ' : Nat → jcell} (h : ∀ a, a < n → ∀ q ∈ ra_dep.getD k [], q.1 = K a → aSm vs q (σ a) (σ' a)) (hb : rUfrlllr K n k (vs.take j) σ) : rUfrlllr K n k (vs.take j) σ' := by
  unfold rUfrlllr at hb ⊢
  cases c : Nat.ble k 301 with
  | true =>
    rw [c] at hb
    exact rUfrlllrl_st h hb
  | false =>
    rw [c] at hb
    exact rUfrlllrr_st h hb
theorem rUfrlll_st {K : Nat → Nat} {n : Nat} {k : Nat} {vs : List jv} {j : Nat} {σ σ' : Nat → jcell} (h : ∀ a, a < n → ∀ q ∈ ra_dep.getD k [], q.1 = K a → aSm vs q (σ a) (σ' a)) (hb : rUfrlll K n k (vs.take j) σ) : rUfrlll K n k (vs.take j) σ' := by
  unfold rUfrlll at hb ⊢
  cases c : Nat.ble k 300 with
  | true =>
    rw [c] at hb
    exact rUfrllll_st h hb
  | false =>
    rw [c] at hb
    exact rUfrlllr_st h hb
theorem rUfrllrll_st {K : Nat → Nat} {n : Nat} {k : Nat} {vs : List jv} {j : Nat} {σ σ' : Nat → jcell} (h : ∀ a, a < n → ∀ q ∈ ra_dep.getD k [], q.1 = K a → aSm vs q (σ a) (σ' a)) (hb : rUfrllrll K n k (vs.take j) σ) : rUfrllrll K n k (vs.take j) σ' := by
  unfold rUfrllrll at hb ⊢
  cases c : Nat.beq k 304 with
  | true =>
    rw [c] at hb
    obtain rfl := Nat.eq_of_beq_eq_true c
    exact rs_304 h hb
  | false =>
    rw [c] at hb
    exact hb.elim
theorem rUfrllrlr_st {K : Nat → Nat} {n : Nat} {k : Nat} {vs : List jv} {j : Nat} {σ σ' : Nat → jcell} (h : ∀ a, a < n → ∀ q ∈ ra_dep.getD k [], q.1 = K a → aSm vs q (σ a) (σ' a)) (hb : rUfrllrlr K n k (vs.take j) σ) : rUfrllrlr K n k (vs.take j) σ' := by
  unfold rUfrllrlr at hb ⊢
  cases c : Nat.beq k 305 with
  | true =>
    rw [c] at hb
    obtain rfl := Nat.eq_of_beq_eq_true c
    exact rs_305 h hb
  | false =>
    rw [c] at hb
    exact hb.elim
theorem rUfrllrl_st {K : Nat → Nat} {n : Nat} {k : Nat} {vs : List jv} {j : Nat} {σ σ' : Nat → jcell} (h : ∀ a, a < n → ∀ q ∈ ra_dep.getD k [], q.1 = K a → aSm vs q (σ a) (σ' a)) (hb : rUfrllrl K n k (vs.take j) σ) : rUfrllrl K n k (vs.take j) σ' := by
  unfold rUfrllrl at hb ⊢
  cases c : Nat.ble k 304 with
  | true =>
    rw [c] at hb
    exact rUfrllrll_st h hb
  | false =>
    rw [c] at hb
    exact rUfrllrlr_st h hb
theorem rUfrllrrl_st {K : Nat → Nat} {n : Nat} {k : Nat} {vs : List jv} {j : Nat} {σ σ' : Nat → jcell} (h : ∀ a, a < n → ∀ q ∈ ra_dep.getD k [], q.1 = K a → aSm vs q (σ a) (σ' a)) (hb : rUfrllrrl K n k (vs.take j) σ) : rUfrllrrl K n k (vs.take j) σ' := by
  unfold rUfrllrrl at hb ⊢
  cases c : Nat.beq k 306 with
  | true =>
    rw [c] at hb
    obtain rfl := Nat.eq_of_beq_eq_true c
    exact rs_306 h hb
  | false =>
    rw [c] at hb
    exact hb.elim
theorem rUfrllrrrl_st {K : Nat → Nat} {n : Nat} {k : Nat} {vs : List jv} {j : Nat} {σ σ' : Nat → jcell} (h : ∀ a, a < n → ∀ q ∈ ra_dep.getD k [], q.1 = K a → aSm vs q (σ a) (σ' a)) (hb : rUfrllrrrl K n k (vs.take j) σ) : rUfrllrrrl K n k (vs.take j) σ' := by
  unfold rUfrllrrrl at hb ⊢
  cases c : Nat.beq k 307 with
  | true =>
    rw [c] at hb
    obtain rfl := Nat.eq_of_beq_eq_true c
    exact rs_307 h hb
  | false =>
    rw [c] at hb
    exact hb.elim
theorem rUfrllrrrr_st {K : Nat → Nat} {n : Nat} {k : Nat} {vs : List jv} {j : Nat} {σ σ' : Nat → jcell} (h : ∀ a, a < n → ∀ q ∈ ra_dep.getD k [], q.1 = K a → aSm vs q (σ a) (σ' a)) (hb : rUfrllrrrr K n k (vs.take j) σ) : rUfrllrrrr K n k (vs.take j) σ' := by
  unfold rUfrllrrrr at hb ⊢
  cases c : Nat.beq k 308 with
  | true =>
    rw [c] at hb
    obtain rfl := Nat.eq_of_beq_eq_true c
    exact rs_308 h hb
  | false =>
    rw [c] at hb
    exact hb.elim
theorem rUfrllrrr_st {K : Nat → Nat} {n : Nat} {k : Nat} {vs : List jv} {j : Nat} {σ σ' : Nat → jcell} (h : ∀ a, a < n → ∀ q ∈ ra_dep.getD k [], q.1 = K a → aSm vs q (σ a) (σ' a)) (hb : rUfrllrrr K n k (vs.take j) σ) : rUfrllrrr K n k (vs.take j) σ' := by
  unfold rUfrllrrr at hb ⊢
  cases c : Nat.ble k 307 with
  | true =>
    rw [c] at hb
    exact rUfrllrrrl_st h hb
  | false =>
    rw [c] at hb
    exact rUfrllrrrr_st h hb
theorem rUfrllrr_st {K : Nat → Nat} {n : Nat} {k : Nat} {vs : List jv} {j : Nat} {σ σ' : Nat → jcell} (h : ∀ a, a < n → ∀ q ∈ ra_dep.getD k [], q.1 = K a → aSm vs q (σ a) (σ' a)) (hb : rUfrllrr K n k (vs.take j) σ) : rUfrllrr K n k (vs.take j) σ' := by
  unfold rUfrllrr at hb ⊢
  cases c : Nat.ble k 306 with
  | true =>
    rw [c] at hb
    exact rUfrllrrl_st h hb
  | false =>
    rw [c] at hb
    exact rUfrllrrr_st h hb
theorem rUfrllr_st {K : Nat → Nat} {n : Nat} {k : Nat} {vs : List jv} {j : Nat} {σ σ' : Nat → jcell} (h : ∀ a, a < n → ∀ q ∈ ra_dep.getD k [], q.1 = K a → aSm vs q (σ a) (σ' a)) (hb : rUfrllr K n k (vs.take j) σ) : rUfrllr K n k (vs.take j) σ' := by
  unfold rUfrllr at hb ⊢
  cases c : Nat.ble k 305 with
  | true =>
    rw [c] at hb
    exact rUfrllrl_st h hb
  | false =>
    rw [c] at hb
    exact rUfrllrr_st h hb
theorem rUfrll_st {K : Nat → Nat} {n : Nat} {k : Nat} {vs : List jv} {j : Nat} {σ σ' : Nat → jcell} (h : ∀ a, a < n → ∀ q ∈ ra_dep.getD k [], q.1 = K a → aSm vs q (σ a) (σ' a)) (hb : rUfrll K n k (vs.take j) σ) : rUfrll K n k (vs.take j) σ' := by
  unfold rUfrll at hb ⊢
  cases c : Nat.ble k 303 with
  | true =>
    rw [c] at hb
    exact rUfrlll_st h hb
  | false =>
    rw [c] at hb
    exact rUfrllr_st h hb
theorem rUfrlrlll_st {K : Nat → Nat} {n : Nat} {k : Nat} {vs : List jv} {j : Nat} {σ σ' : Nat → jcell} (h : ∀ a, a < n → ∀ q ∈ ra_dep.getD k [], q.1 = K a → aSm vs q (σ a) (σ' a)) (hb : rUfrlrlll K n k (vs.take j) σ) : rUfrlrlll K n k (vs.take j) σ' := by
  unfold rUfrlrlll at hb ⊢
  cases c : Nat.beq k 309 with
  | true =>
    rw [c] at hb
    obtain rfl := Nat.eq_of_beq_eq_true c
    exact rs_309 h hb
  | false =>
    rw [c] at hb
    exact hb.elim
theorem rUfrlrllr_st {K : Nat → Nat} {n : Nat} {k : Nat} {vs : List jv} {j : Nat} {σ σ' : Nat → jcell} (h : ∀ a, a < n → ∀ q ∈ ra_dep.getD k [], q.1 = K a → aSm vs q (σ a) (σ' a)) (hb : rUfrlrllr K n k (vs.take j) σ) : rUfrlrllr K n k (vs.take j) σ' := by
  unfold rUfrlrllr at hb ⊢
  cases c : Nat.beq k 310 with
  | true =>
    rw [c] at hb
    obtain rfl := Nat.eq_of_beq_eq_true c
    exact rs_310 h hb
  | false =>
    rw [c] at hb
    exact hb.elim
theorem rUfrlrll_st {K : Nat → Nat} {n : Nat} {k : Nat} {vs : List jv} {j : Nat} {σ σ' : Nat → jcell} (h : ∀ a, a < n → ∀ q ∈ ra_dep.getD k [], q.1 = K a → aSm vs q (σ a) (σ' a)) (hb : rUfrlrll K n k (vs.take j) σ) : rUfrlrll K n k (vs.take j) σ' := by
  unfold rUfrlrll at hb ⊢
  cases c : Nat.ble k 309 with
  | true =>
    rw [c] at hb
    exact rUfrlrlll_st h hb
  | false =>
    rw [c] at hb
    exact rUfrlrllr_st h hb
theorem rUfrlrlrl_st {K : Nat → Nat} {n : Nat} {k : Nat} {vs : List jv} {j : Nat} {σ σ' : Nat → jcell} (h : ∀ a, a < n → ∀ q ∈ ra_dep.getD k [], q.1 = K a → aSm vs q (σ a) (σ' a)) (hb : rUfrlrlrl K n k (vs.take j) σ) : rUfrlrlrl K n k (vs.take j) σ' := by
  unfold rUfrlrlrl at hb ⊢
  cases c : Nat.beq k 311 with
  | true =>
    rw [c] at hb
    obtain rfl := Nat.eq_of_beq_eq_true c
    exact rs_311 h hb
  | false =>
    rw [c] at hb
    exact hb.elim
theorem rUfrlrlrrl_st {K : Nat → Nat} {n : Nat} {k : Nat} {vs : List jv} {j : Nat} {σ σ' : Nat → jcell} (h : ∀ a, a < n → ∀ q ∈ ra_dep.getD k [], q.1 = K a → aSm vs q (σ a) (σ' a)) (hb : rUfrlrlrrl K n k (vs.take j) σ) : rUfrlrlrrl K n k (vs.take j) σ' := by
  unfold rUfrlrlrrl at hb ⊢
  cases c : Nat.beq k 312 with
  | true =>
    rw [c] at hb
    obtain rfl := Nat.eq_of_beq_eq_true c
    exact rs_312 h hb
  | false =>
    rw [c] at hb
    exact hb.elim
theorem rUfrlrlrrr_st {K : Nat → Nat} {n : Nat} {k : Nat} {vs : List jv} {j : Nat} {σ σ' : Nat → jcell} (h : ∀ a, a < n → ∀ q ∈ ra_dep.getD k [], q.1 = K a → aSm vs q (σ a) (σ' a)) (hb : rUfrlrlrrr K n k (vs.take j) σ) : rUfrlrlrrr K n k (vs.take j) σ' := by
  unfold rUfrlrlrrr at hb ⊢
  cases c : Nat.beq k 313 with
  | true =>
    rw [c] at hb
    obtain rfl := Nat.eq_of_beq_eq_true c
    exact rs_313 h hb
  | false =>
    rw [c] at hb
    exact hb.elim
theorem rUfrlrlrr_st {K : Nat → Nat} {n : Nat} {k : Nat} {vs : List jv} {j : Nat} {σ σ' : Nat → jcell} (h : ∀ a, a < n → ∀ q ∈ ra_dep.getD k [], q.1 = K a → aSm vs q (σ a) (σ' a)) (hb : rUfrlrlrr K n k (vs.take j) σ) : rUfrlrlrr K n k (vs.take j) σ' := by
  unfold rUfrlrlrr at hb ⊢
  cases c : Nat.ble k 312 with
  | true =>
    rw [c] at hb
    exact rUfrlrlrrl_st h hb
  | false =>
    rw [c] at hb
    exact rUfrlrlrrr_st h hb
theorem rUfrlrlr_st {K : Nat → Nat} {n : Nat} {k : Nat} {vs : List jv} {j : Nat} {σ σ' : Nat → jcell} (h : ∀ a, a < n → ∀ q ∈ ra_dep.getD k [], q.1 = K a → aSm vs q (σ a) (σ' a)) (hb : rUfrlrlr K n k (vs.take j) σ) : rUfrlrlr K n k (vs.take j) σ' := by
  unfold rUfrlrlr at hb ⊢
  cases c : Nat.ble k 311 with
  | true =>
    rw [c] at hb
    exact rUfrlrlrl_st h hb
  | false =>
    rw [c] at hb
    exact rUfrlrlrr_st h hb
theorem rUfrlrl_st {K : Nat → Nat} {n : Nat} {k : Nat} {vs : List jv} {j : Nat} {σ σ' : Nat → jcell} (h : ∀ a, a < n → ∀ q ∈ ra_dep.getD k [], q.1 = K a → aSm vs q (σ a) (σ' a)) (hb : rUfrlrl K n k (vs.take j) σ) : rUfrlrl K n k (vs.take j) σ' := by
  unfold rUfrlrl at hb ⊢
  cases c : Nat.ble k 310 with
  | true =>
    rw [c] at hb
    exact rUfrlrll_st h hb
  | false =>
    rw [c] at hb
    exact rUfrlrlr_st h hb
theorem rUfrlrrll_st {K : Nat → Nat} {n : Nat} {k : Nat} {vs : List jv} {j : Nat} {σ σ' : Nat → jcell} (h : ∀ a, a < n → ∀ q ∈ ra_dep.getD k [], q.1 = K a → aSm vs q (σ a) (σ' a)) (hb : rUfrlrrll K n k (vs.take j) σ) : rUfrlrrll K n k (vs.take j) σ' := by
  unfold rUfrlrrll at hb ⊢
  cases c : Nat.beq k 314 with
  | true =>
    rw [c] at hb
    obtain rfl := Nat.eq_of_beq_eq_true c
    exact rs_314 h hb
  | false =>
    rw [c] at hb
    exact hb.elim
theorem rUfrlrrlrl_st {K : Nat → Nat} {n : Nat} {k : Nat} {vs : List jv} {j : Nat} {σ σ' : Nat → jcell} (h : ∀ a, a < n → ∀ q ∈ ra_dep.getD k [], q.1 = K a → aSm vs q (σ a) (σ' a)) (hb : rUfrlrrlrl K n k (vs.take j) σ) : rUfrlrrlrl K n k (vs.take j) σ' := by
  unfold rUfrlrrlrl at hb ⊢
  cases c : Nat.beq k 315 with
  | true =>
    rw [c] at hb
    obtain rfl := Nat.eq_of_beq_eq_true c
    exact rs_315 h hb
  | false =>
    rw [c] at hb
    exact hb.elim
theorem rUfrlrrlrr_st {K : Nat → Nat} {n : Nat} {k : Nat} {vs : List jv} {j : Nat} {σ σ' : Nat → jcell} (h : ∀ a, a < n → ∀ q ∈ ra_dep.getD k [], q.1 = K a → aSm vs q (σ a) (σ' a)) (hb : rUfrlrrlrr K n k (vs.take j) σ) : rUfrlrrlrr K n k (vs.take j) σ' := by
  unfold rUfrlrrlrr at hb ⊢
  cases c : Nat.beq k 316 with
  | true =>
    rw [c] at hb
    obtain rfl := Nat.eq_of_beq_eq_true c
    exact rs_316 h hb
  | false =>
    rw [c] at hb
    exact hb.elim
theorem rUfrlrrlr_st {K : Nat → Nat} {n : Nat} {k : Nat} {vs : List jv} {j : Nat} {σ σ' : Nat → jcell} (h : ∀ a, a < n → ∀ q ∈ ra_dep.getD k [], q.1 = K a → aSm vs q (σ a) (σ' a)) (hb : rUfrlrrlr K n k (vs.take j) σ) : rUfrlrrlr K n k (vs.take j) σ' := by
  unfold rUfrlrrlr at hb ⊢
  cases c : Nat.ble k 315 with
  | true =>
    rw [c] at hb
    exact rUfrlrrlrl_st h hb
  | false =>
    rw [c] at hb
    exact rUfrlrrlrr_st h hb
theorem rUfrlrrl_st {K : Nat → Nat} {n : Nat} {k : Nat} {vs : List jv} {j : Nat} {σ σ' : Nat → jcell} (h : ∀ a, a < n → ∀ q ∈ ra_dep.getD k [], q.1 = K a → aSm vs q (σ a) (σ' a)) (hb : rUfrlrrl K n k (vs.take j) σ) : rUfrlrrl K n k (vs.take j) σ' := by
  unfold rUfrlrrl at hb ⊢
  cases c : Nat.ble k 314 with
  | true =>
    rw [c] at hb
    exact rUfrlrrll_st h hb
  | false =>
    rw [c] at hb
    exact rUfrlrrlr_st h hb
theorem rUfrlrrrl_st {K : Nat → Nat} {n : Nat} {k : Nat} {vs : List jv} {j : Nat} {σ σ' : Nat → jcell} (h : ∀ a, a < n → ∀ q ∈ ra_dep.getD k [], q.1 = K a → aSm vs q (σ a) (σ' a)) (hb : rUfrlrrrl K n k (vs.take j) σ) : rUfrlrrrl K n k (vs.take j) σ' := by
  unfold rUfrlrrrl at hb ⊢
  cases c : Nat.beq k 317 with
  | true =>
    rw [c] at hb
    obtain rfl := Nat.eq_of_beq_eq_true c
    exact rs_317 h hb
  | false =>
    rw [c] at hb
    exact hb.elim
theorem rUfrlrrrrl_st {K : Nat → Nat} {n : Nat} {k : Nat} {vs : List jv} {j : Nat} {σ σ' : Nat → jcell} (h : ∀ a, a < n → ∀ q ∈ ra_dep.getD k [], q.1 = K a → aSm vs q (σ a) (σ' a)) (hb : rUfrlrrrrl K n k (vs.take j) σ) : rUfrlrrrrl K n k (vs.take j) σ' := by
  unfold rUfrlrrrrl at hb ⊢
  cases c : Nat.beq k 318 with
  | true =>
    rw [c] at hb
    obtain rfl := Nat.eq_of_beq_eq_true c
    exact rs_318 h hb
  | false =>
    rw [c] at hb
    exact hb.elim
theorem rUfrlrrrrr_st {K : Nat → Nat} {n : Nat} {k : Nat} {vs : List jv} {j : Nat} {σ σ' : Nat → jcell} (h : ∀ a, a < n → ∀ q ∈ ra_dep.getD k [], q.1 = K a → aSm vs q (σ a) (σ' a)) (hb : rUfrlrrrrr K n k (vs.take j) σ) : rUfrlrrrrr K n k (vs.take j) σ' := by
  unfold rUfrlrrrrr at hb ⊢
  cases c : Nat.beq k 319 with
  | true =>
    rw [c] at hb
    obtain rfl := Nat.eq_of_beq_eq_true c
    exact rs_319 h hb
  | false =>
    rw [c] at hb
    exact hb.elim
theorem rUfrlrrrr_st {K : Nat → Nat} {n : Nat} {k : Nat} {vs : List jv} {j : Nat} {σ σ' : Nat → jcell} (h : ∀ a, a < n → ∀ q ∈ ra_dep.getD k [], q.1 = K a → aSm vs q (σ a) (σ' a)) (hb : rUfrlrrrr K n k (vs.take j) σ) : rUfrlrrrr K n k (vs.take j) σ' := by
  unfold rUfrlrrrr at hb ⊢
  cases c : Nat.ble k 318 with
  | true =>
    rw [c] at hb
    exact rUfrlrrrrl_st h hb
  | false =>
    rw [c] at hb
    exact rUfrlrrrrr_st h hb
theorem rUfrlrrr_st {K : Nat → Nat} {n : Nat} {k : Nat} {vs : List jv} {j : Nat} {σ σ' : Nat → jcell} (h : ∀ a, a < n → ∀ q ∈ ra_dep.getD k [], q.1 = K a → aSm vs q (σ a) (σ' a)) (hb : rUfrlrrr K n k (vs.take j) σ) : rUfrlrrr K n k (vs.take j) σ' := by
  unfold rUfrlrrr at hb ⊢
  cases c : Nat.ble k 317 with
  | true =>
    rw [c] at hb
    exact rUfrlrrrl_st h hb
  | false =>
    rw [c] at hb
    exact rUfrlrrrr_st h hb
theorem rUfrlrr_st {K : Nat → Nat} {n : Nat} {k : Nat} {vs : List jv} {j : Nat} {σ σ' : Nat → jcell} (h : ∀ a, a < n → ∀ q ∈ ra_dep.getD k [], q.1 = K a → aSm vs q (σ a) (σ' a)) (hb : rUfrlrr K n k (vs.take j) σ) : rUfrlrr K n k (vs.take j) σ' := by
  unfold rUfrlrr at hb ⊢
  cases c : Nat.ble k 316 with
  | true =>
    rw [c] at hb
    exact rUfrlrrl_st h hb
  | false =>
    rw [c] at hb
    exact rUfrlrrr_st h hb
theorem rUfrlr_st {K : Nat → Nat} {n : Nat} {k : Nat} {vs : List jv} {j : Nat} {σ σ' : Nat → jcell} (h : ∀ a, a < n → ∀ q ∈ ra_dep.getD k [], q.1 = K a → aSm vs q (σ a) (σ' a)) (hb : rUfrlr K n k (vs.take j) σ) : rUfrlr K n k (vs.take j) σ' := by
  unfold rUfrlr at hb ⊢
  cases c : Nat.ble k 313 with
  | true =>
    rw [c] at hb
    exact rUfrlrl_st h hb
  | false =>
    rw [c] at hb
    exact rUfrlrr_st h hb
theorem rUfrl_st {K : Nat → Nat} {n : Nat} {k : Nat} {vs : List jv} {j : Nat} {σ σ' : Nat → jcell} (h : ∀ a, a < n → ∀ q ∈ ra_dep.getD k [], q.1 = K a → aSm vs q (σ a) (σ' a)) (hb : rUfrl K n k (vs.take j) σ) : rUfrl K n k (vs.take j) σ' := by
  unfold rUfrl at hb ⊢
  cases c : Nat.ble k 308 with
  | true =>
    rw [c] at hb
    exact rUfrll_st h hb
  | false =>
    rw [c] at hb
    exact rUfrlr_st h hb
theorem rUfrrllll_st {K : Nat → Nat} {n : Nat} {k : Nat} {vs : List jv} {j : Nat} {σ σ' : Nat → jcell} (h : ∀ a, a < n → ∀ q ∈ ra_dep.getD k [], q.1 = K a → aSm vs q (σ a) (σ' a)) (hb : rUfrrllll K n k (vs.take j) σ) : rUfrrllll K n k (vs.take j) σ' := by
  unfold rUfrrllll at hb ⊢
  cases c : Nat.beq k 320 with
  | true =>
    rw [c] at hb
    obtain rfl := Nat.eq_of_beq_eq_true c
    exact rs_320 h hb
  | false =>
    rw [c] at hb
    exact hb.elim
theorem rUfrrlllr_st {K : Nat → Nat} {n : Nat} {k : Nat} {vs : List jv} {j : Nat} {σ σ' : Nat → jcell} (h : ∀ a, a < n → ∀ q ∈ ra_dep.getD k [], q.1 = K a → aSm vs q (σ a) (σ' a)) (hb : rUfrrlllr K n k (vs.take j) σ) : rUfrrlllr K n k (vs.take j) σ' := by
  unfold rUfrrlllr at hb ⊢
  cases c : Nat.beq k 321 with
  | true =>
    rw [c] at hb
    obtain rfl := Nat.eq_of_beq_eq_true c
    exact rs_321 h hb
  | false =>
    rw [c] at hb
    exact hb.elim
theorem rUfrrlll_st {K : Nat → Nat} {n : Nat} {k : Nat} {vs : List jv} {j : Nat} {σ σ' : Nat → jcell} (h : ∀ a, a < n → ∀ q ∈ ra_dep.getD k [], q.1 = K a → aSm vs q (σ a) (σ' a)) (hb : rUfrrlll K n k (vs.take j) σ) : rUfrrlll K n k (vs.take j) σ' := by
  unfold rUfrrlll at hb ⊢
  cases c : Nat.ble k 320 with
  | true =>
    rw [c] at hb
    exact rUfrrllll_st h hb
  | false =>
    rw [c] at hb
    exact rUfrrlllr_st h hb
theorem rUfrrllrl_st {K : Nat → Nat} {n : Nat} {k : Nat} {vs : List jv} {j : Nat} {σ σ' : Nat → jcell} (h : ∀ a, a < n → ∀ q ∈ ra_dep.getD k [], q.1 = K a → aSm vs q (σ a) (σ' a)) (hb : rUfrrllrl K n k (vs.take j) σ) : rUfrrllrl K n k (vs.take j) σ' := by
  unfold rUfrrllrl at hb ⊢
  cases c : Nat.beq k 322 with
  | true =>
    rw [c] at hb
    obtain rfl := Nat.eq_of_beq_eq_true c
    exact rs_322 h hb
  | false =>
    rw [c] at hb
    exact hb.elim
theorem rUfrrllrrl_st {K : Nat → Nat} {n : Nat} {k : Nat} {vs : List jv} {j : Nat} {σ σ' : Nat → jcell} (h : ∀ a, a < n → ∀ q ∈ ra_dep.getD k [], q.1 = K a → aSm vs q (σ a) (σ' a)) (hb : rUfrrllrrl K n k (vs.take j) σ) : rUfrrllrrl K n k (vs.take j) σ' := by
  unfold rUfrrllrrl at hb ⊢
  cases c : Nat.beq k 323 with
  | true =>
    rw [c] at hb
    obtain rfl := Nat.eq_of_beq_eq_true c
    exact rs_323 h hb
  | false =>
    rw [c] at hb
    exact hb.elim
theorem rUfrrllrrr_st {K : Nat → Nat} {n : Nat} {k : Nat} {vs : List jv} {j : Nat} {σ σ' : Nat → jcell} (h : ∀ a, a < n → ∀ q ∈ ra_dep.getD k [], q.1 = K a → aSm vs q (σ a) (σ' a)) (hb : rUfrrllrrr K n k (vs.take j) σ) : rUfrrllrrr K n k (vs.take j) σ' := by
  unfold rUfrrllrrr at hb ⊢
  cases c : Nat.beq k 324 with
  | true =>
    rw [c] at hb
    obtain rfl := Nat.eq_of_beq_eq_true c
    exact rs_324 h hb
  | false =>
    rw [c] at hb
    exact hb.elim
theorem rUfrrllrr_st {K : Nat → Nat} {n : Nat} {k : Nat} {vs : List jv} {j : Nat} {σ σ' : Nat → jcell} (h : ∀ a, a < n → ∀ q ∈ ra_dep.getD k [], q.1 = K a → aSm vs q (σ a) (σ' a)) (hb : rUfrrllrr K n k (vs.take j) σ) : rUfrrllrr K n k (vs.take j) σ' := by
  unfold rUfrrllrr at hb ⊢
  cases c : Nat.ble k 323 with
  | true =>
    rw [c] at hb
    exact rUfrrllrrl_st h hb
  | false =>
    rw [c] at hb
    exact rUfrrllrrr_st h hb
theorem rUfrrllr_st {K : Nat → Nat} {n : Nat} {k : Nat} {vs : List jv} {j : Nat} {σ σ' : Nat → jcell} (h : ∀ a, a < n → ∀ q ∈ ra_dep.getD k [], q.1 = K a → aSm vs q (σ a) (σ' a)) (hb : rUfrrllr K n k (vs.take j) σ) : rUfrrllr K n k (vs.take j) σ' := by
  unfold rUfrrllr at hb ⊢
  cases c : Nat.ble k 322 with
  | true =>
    rw [c] at hb
    exact rUfrrllrl_st h hb
  | false =>
    rw [c] at hb
    exact rUfrrllrr_st h hb
theorem rUfrrll_st {K : Nat → Nat} {n : Nat} {k : Nat} {vs : List jv} {j : Nat} {σ σ' : Nat → jcell} (h : ∀ a, a < n → ∀ q ∈ ra_dep.getD k [], q.1 = K a → aSm vs q (σ a) (σ' a)) (hb : rUfrrll K n k (vs.take j) σ) : rUfrrll K n k (vs.take j) σ' := by
  unfold rUfrrll at hb ⊢
  cases c : Nat.ble k 321 with
  | true =>
    rw [c] at hb
    exact rUfrrlll_st h hb
  | false =>
    rw [c] at hb
    exact rUfrrllr_st h hb
theorem rUfrrlrll_st {K : Nat → Nat} {n : Nat} {k : Nat} {vs : List jv} {j : Nat} {σ σ' : Nat → jcell} (h : ∀ a, a < n → ∀ q ∈ ra_dep.getD k [], q.1 = K a → aSm vs q (σ a) (σ' a)) (hb : rUfrrlrll K n k (vs.take j) σ) : rUfrrlrll K n k (vs.take j) σ' := by
  unfold rUfrrlrll at hb ⊢
  cases c : Nat.beq k 325 with
  | true =>
    rw [c] at hb
    obtain rfl := Nat.eq_of_beq_eq_true c
    exact rs_325 h hb
  | false =>
    rw [c] at hb
    exact hb.elim
theorem rUfrrlrlrl_st {K : Nat → Nat} {n : Nat} {k : Nat} {vs : List jv} {j : Nat} {σ σ' : Nat → jcell} (h : ∀ a, a < n → ∀ q ∈ ra_dep.getD k [], q.1 = K a → aSm vs q (σ a) (σ' a)) (hb : rUfrrlrlrl K n k (vs.take j) σ) : rUfrrlrlrl K n k (vs.take j) σ' := by
  unfold rUfrrlrlrl at hb ⊢
  cases c : Nat.beq k 326 with
  | true =>
    rw [c] at hb
    obtain rfl := Nat.eq_of_beq_eq_true c
    exact rs_326 h hb
  | false =>
    rw [c] at hb
    exact hb.elim
theorem rUfrrlrlrr_st {K : Nat → Nat} {n : Nat} {k : Nat} {vs : List jv} {j : Nat} {σ σ' : Nat → jcell} (h : ∀ a, a < n → ∀ q ∈ ra_dep.getD k [], q.1 = K a → aSm vs q (σ a) (σ' a)) (hb : rUfrrlrlrr K n k (vs.take j) σ) : rUfrrlrlrr K n k (vs.take j) σ' := by
  unfold rUfrrlrlrr at hb ⊢
  cases c : Nat.beq k 327 with
  | true =>
    rw [c] at hb
    obtain rfl := Nat.eq_of_beq_eq_true c
    exact rs_327 h hb
  | false =>
    rw [c] at hb
    exact hb.elim
theorem rUfrrlrlr_st {K : Nat → Nat} {n : Nat} {k : Nat} {vs : List jv} {j : Nat} {σ σ' : Nat → jcell} (h : ∀ a, a < n → ∀ q ∈ ra_dep.getD k [], q.1 = K a → aSm vs q (σ a) (σ' a)) (hb : rUfrrlrlr K n k (vs.take j) σ) : rUfrrlrlr K n k (vs.take j) σ' := by
  unfold rUfrrlrlr at hb ⊢
  cases c : Nat.ble k 326 with
  | true =>
    rw [c] at hb
    exact rUfrrlrlrl_st h hb
  | false =>
    rw [c] at hb
    exact rUfrrlrlrr_st h hb
theorem rUfrrlrl_st {K : Nat → Nat} {n : Nat} {k : Nat} {vs : List jv} {j : Nat} {σ σ' : Nat → jcell} (h : ∀ a, a < n → ∀ q ∈ ra_dep.getD k [], q.1 = K a → aSm vs q (σ a) (σ' a)) (hb : rUfrrlrl K n k (vs.take j) σ) : rUfrrlrl K n k (vs.take j) σ' := by
  unfold rUfrrlrl at hb ⊢
  cases c : Nat.ble k 325 with
  | true =>
    rw [c] at hb
    exact rUfrrlrll_st h hb
  | false =>
    rw [c] at hb
    exact rUfrrlrlr_st h hb
theorem rUfrrlrrl_st {K : Nat → Nat} {n : Nat} {k : Nat} {vs : List jv} {j : Nat} {σ σ' : Nat → jcell} (h : ∀ a, a < n → ∀ q ∈ ra_dep.getD k [], q.1 = K a → aSm vs q (σ a) (σ' a)) (hb : rUfrrlrrl K n k (vs.take j) σ) : rUfrrlrrl K n k (vs.take j) σ' := by
  unfold rUfrrlrrl at hb ⊢
  cases c : Nat.beq k 328 with
  | true =>
    rw [c] at hb
    obtain rfl := Nat.eq_of_beq_eq_true c
    exact rs_328 h hb
  | false =>
    rw [c] at hb
    exact hb.elim
theorem rUfrrlrrrl_st {K : Nat → Nat} {n : Nat} {k : Nat} {vs : List jv} {j : Nat} {σ σ' : Nat → jcell} (h : ∀ a, a < n → ∀ q ∈ ra_dep.getD k [], q.1 = K a → aSm vs q (σ a) (σ' a)) (hb : rUfrrlrrrl K n k (vs.take j) σ) : rUfrrlrrrl K n k (vs.take j) σ' := by
  unfold rUfrrlrrrl at hb ⊢
  cases c : Nat.beq k 329 with
  | true =>
    rw [c] at hb
    obtain rfl := Nat.eq_of_beq_eq_true c
    exact rs_329 h hb
  | false =>
    rw [c] at hb
    exact hb.elim
theorem rUfrrlrrrr_st {K : Nat → Nat} {n : Nat} {k : Nat} {vs : List jv} {j : Nat} {σ σ' : Nat → jcell} (h : ∀ a, a < n → ∀ q ∈ ra_dep.getD k [], q.1 = K a → aSm vs q (σ a) (σ' a)) (hb : rUfrrlrrrr K n k (vs.take j) σ) : rUfrrlrrrr K n k (vs.take j) σ' := by
  unfold rUfrrlrrrr at hb ⊢
  cases c : Nat.beq k 330 with
  | true =>
    rw [c] at hb
    obtain rfl := Nat.eq_of_beq_eq_true c
    exact rs_330 h hb
  | false =>
    rw [c] at hb
    exact hb.elim
theorem rUfrrlrrr_st {K : Nat → Nat} {n : Nat} {k : Nat} {vs : List jv} {j : Nat} {σ σ' : Nat → jcell} (h : ∀ a, a < n → ∀ q ∈ ra_dep.getD k [], q.1 = K a → aSm vs q (σ a) (σ' a)) (hb : rUfrrlrrr K n k (vs.take j) σ) : rUfrrlrrr K n k (vs.take j) σ' := by
  unfold rUfrrlrrr at hb ⊢
  cases c : Nat.ble k 329 with
  | true =>
    rw [c] at hb
    exact rUfrrlrrrl_st h hb
  | false =>
    rw [c] at hb
    exact rUfrrlrrrr_st h hb
theorem rUfrrlrr_st {K : Nat → Nat} {n : Nat} {k : Nat} {vs : List jv} {j : Nat} {σ σ' : Nat → jcell} (h : ∀ a, a < n → ∀ q ∈ ra_dep.getD k [], q.1 = K a → aSm vs q (σ a) (σ' a)) (hb : rUfrrlrr K n k (vs.take j) σ) : rUfrrlrr K n k (vs.take j) σ' := by
  unfold rUfrrlrr at hb ⊢
  cases c : Nat.ble k 328 with
  | true =>
    rw [c] at hb
    exact rUfrrlrrl_st h hb
  | false =>
    rw [c] at hb
    exact rUfrrlrrr_st h hb
theorem rUfrrlr_st {K : Nat → Nat} {n : Nat} {k : Nat} {vs : List jv} {j : Nat} {σ σ' : Nat → jcell} (h : ∀ a, a < n → ∀ q ∈ ra_dep.getD k [], q.1 = K a → aSm vs q (σ a) (σ' a)) (hb : rUfrrlr K n k (vs.take j) σ) : rUfrrlr K n k (vs.take j) σ' := by
  unfold rUfrrlr at hb ⊢
  cases c : Nat.ble k 327 with
  | true =>
    rw [c] at hb
    exact rUfrrlrl_st h hb
  | false =>
    rw [c] at hb
    exact rUfrrlrr_st h hb
theorem rUfrrl_st {K : Nat → Nat} {n : Nat} {k : Nat} {vs : List jv} {j : Nat} {σ σ' : Nat → jcell} (h : ∀ a, a < n → ∀ q ∈ ra_dep.getD k [], q.1 = K a → aSm vs q (σ a) (σ' a)) (hb : rUfrrl K n k (vs.take j) σ) : rUfrrl K n k (vs.take j) σ' := by
  unfold rUfrrl at hb ⊢
  cases c : Nat.ble k 324 with
  | true =>
    rw [c] at hb
    exact rUfrrll_st h hb
  | false =>
    rw [c] at hb
    exact rUfrrlr_st h hb
theorem rUfrrrlll_st {K : Nat → Nat} {n : Nat} {k : Nat} {vs : List jv} {j : Nat} {σ σ' : Nat → jcell} (h : ∀ a, a < n → ∀ q ∈ ra_dep.getD k [], q.1 = K a → aSm vs q (σ a) (σ' a)) (hb : rUfrrrlll K n k (vs.take j) σ) : rUfrrrlll K n k (vs.take j) σ' := by
  unfold rUfrrrlll at hb ⊢
  cases c : Nat.beq k 331 with
  | true =>
    rw [c] at hb
    obtain rfl := Nat.eq_of_beq_eq_true c
    exact rs_331 h hb
  | false =>
    rw [c] at hb
    exact hb.elim
theorem rUfrrrllr_st {K : Nat → Nat} {n : Nat} {k : Nat} {vs : List jv} {j : Nat} {σ σ' : Nat → jcell} (h : ∀ a, a < n → ∀ q ∈ ra_dep.getD k [], q.1 = K a → aSm vs q (σ a) (σ' a)) (hb : rUfrrrllr K n k (vs.take j) σ) : rUfrrrllr K n k (vs.take j) σ' := by
  unfold rUfrrrllr at hb ⊢
  cases c : Nat.beq k 332 with
  | true =>
    rw [c] at hb
    obtain rfl := Nat.eq_of_beq_eq_true c
    exact rs_332 h hb
  | false =>
    rw [c] at hb
    exact hb.elim
theorem rUfrrrll_st {K : Nat → Nat} {n : Nat} {k : Nat} {vs : List jv} {j : Nat} {σ σ' : Nat → jcell} (h : ∀ a, a < n → ∀ q ∈ ra_dep.getD k [], q.1 = K a → aSm vs q (σ a) (σ' a)) (hb : rUfrrrll K n k (vs.take j) σ) : rUfrrrll K n k (vs.take j) σ' := by
  unfold rUfrrrll at hb ⊢
  cases c : Nat.ble k 331 with
  | true =>
    rw [c] at hb
    exact rUfrrrlll_st h hb
  | false =>
    rw [c] at hb
    exact rUfrrrllr_st h hb
theorem rUfrrrlrl_st {K : Nat → Nat} {n : Nat} {k : Nat} {vs : List jv} {j : Nat} {σ σ' : Nat → jcell} (h : ∀ a, a < n → ∀ q ∈ ra_dep.getD k [], q.1 = K a → aSm vs q (σ a) (σ' a)) (hb : rUfrrrlrl K n k (vs.take j) σ) : rUfrrrlrl K n k (vs.take j) σ' := by
  unfold rUfrrrlrl at hb ⊢
  cases c : Nat.beq k 333 with
  | true =>
    rw [c] at hb
    obtain rfl := Nat.eq_of_beq_eq_true c
    exact rs_333 h hb
  | false =>
    rw [c] at hb
    exact hb.elim
theorem rUfrrrlrrl_st {K : Nat → Nat} {n : Nat} {k : Nat} {vs : List jv} {j : Nat} {σ σ' : Nat → jcell} (h : ∀ a, a < n → ∀ q ∈ ra_dep.getD k [], q.1 = K a → aSm vs q (σ a) (σ' a)) (hb : rUfrrrlrrl K n k (vs.take j) σ) : rUfrrrlrrl K n k (vs.take j) σ' := by
  unfold rUfrrrlrrl at hb ⊢
  cases c : Nat.beq k 334 with
  | true =>
    rw [c] at hb
    obtain rfl := Nat.eq_of_beq_eq_true c
    exact rs_334 h hb
  | false =>
    rw [c] at hb
    exact hb.elim
theorem rUfrrrlrrr_st {K : Nat → Nat} {n : Nat} {k : Nat} {vs : List jv} {j : Nat} {σ σ' : Nat → jcell} (h : ∀ a, a < n → ∀ q ∈ ra_dep.getD k [], q.1 = K a → aSm vs q (σ a) (σ' a)) (hb : rUfrrrlrrr K n k (vs.take j) σ) : rUfrrrlrrr K n k (vs.take j) σ' := by
  unfold rUfrrrlrrr at hb ⊢
  cases c : Nat.beq k 335 with
  | true =>
    rw [c] at hb
    obtain rfl := Nat.eq_of_beq_eq_true c
    exact rs_335 h hb
  | false =>
    rw [c] at hb
    exact hb.elim
theorem rUfrrrlrr_st {K : Nat → Nat} {n : Nat} {k : Nat} {vs : List jv} {j : Nat} {σ σ' : Nat → jcell} (h : ∀ a, a < n → ∀ q ∈ ra_dep.getD k [], q.1 = K a → aSm vs q (σ a) (σ' a)) (hb : rUfrrrlrr K n k (vs.take j) σ) : rUfrrrlrr K n k (vs.take j) σ' := by
  unfold rUfrrrlrr at hb ⊢
  cases c : Nat.ble k 334 with
  | true =>
    rw [c] at hb
    exact rUfrrrlrrl_st h hb
  | false =>
    rw [c] at hb
    exact rUfrrrlrrr_st h hb
theorem rUfrrrlr_st {K : Nat → Nat} {n : Nat} {k : Nat} {vs : List jv} {j : Nat} {σ σ' : Nat → jcell} (h : ∀ a, a < n → ∀ q ∈ ra_dep.getD k [], q.1 = K a → aSm vs q (σ a) (σ' a)) (hb : rUfrrrlr K n k (vs.take j) σ) : rUfrrrlr K n k (vs.take j) σ' := by
  unfold rUfrrrlr at hb ⊢
  cases c : Nat.ble k 333 with
  | true =>
    rw [c] at hb
    exact rUfrrrlrl_st h hb
  | false =>
    rw [c] at hb
    exact rUfrrrlrr_st h hb
theorem rUfrrrl_st {K : Nat → Nat} {n : Nat} {k : Nat} {vs : List jv} {j : Nat} {σ σ' : Nat → jcell} (h : ∀ a, a < n → ∀ q ∈ ra_dep.getD k [], q.1 = K a → aSm vs q (σ a) (σ' a)) (hb : rUfrrrl K n k (vs.take j) σ) : rUfrrrl K n k (vs.take j) σ' := by
  unfold rUfrrrl at hb ⊢
  cases c : Nat.ble k 332 with
  | true =>
    rw [c] at hb
    exact rUfrrrll_st h hb
  | false =>
    rw [c] at hb
    exact rUfrrrlr_st h hb
theorem rUfrrrrll_st {K : Nat → Nat} {n : Nat} {k : Nat} {vs : List jv} {j : Nat} {σ σ' : Nat → jcell} (h : ∀ a, a < n → ∀ q ∈ ra_dep.getD k [], q.1 = K a → aSm vs q (σ a) (σ' a)) (hb : rUfrrrrll K n k (vs.take j) σ) : rUfrrrrll K n k (vs.take j) σ' := by
  unfold rUfrrrrll at hb ⊢
  cases c : Nat.beq k 336 with
  | true =>
    rw [c] at hb
    obtain rfl := Nat.eq_of_beq_eq_true c
    exact rs_336 h hb
  | false =>
    rw [c] at hb
    exact hb.elim
theorem rUfrrrrlrl_st {K : Nat → Nat} {n : Nat} {k : Nat} {vs : List jv} {j : Nat} {σ σ' : Nat → jcell} (h : ∀ a, a < n → ∀ q ∈ ra_dep.getD k [], q.1 = K a → aSm vs q (σ a) (σ' a)) (hb : rUfrrrrlrl K n k (vs.take j) σ) : rUfrrrrlrl K n k (vs.take j) σ' := by
  unfold rUfrrrrlrl at hb ⊢
  cases c : Nat.beq k 337 with
  | true =>
    rw [c] at hb
    obtain rfl := Nat.eq_of_beq_eq_true c
    exact rs_337 h hb
  | false =>
    rw [c] at hb
    exact hb.elim
theorem rUfrrrrlrr_st {K : Nat → Nat} {n : Nat} {k : Nat} {vs : List jv} {j : Nat} {σ σ' : Nat → jcell} (h : ∀ a, a < n → ∀ q ∈ ra_dep.getD k [], q.1 = K a → aSm vs q (σ a) (σ' a)) (hb : rUfrrrrlrr K n k (vs.take j) σ) : rUfrrrrlrr K n k (vs.take j) σ' := by
  unfold rUfrrrrlrr at hb ⊢
  cases c : Nat.beq k 338 with
  | true =>
    rw [c] at hb
    obtain rfl := Nat.eq_of_beq_eq_true c
    exact rs_338 h hb
  | false =>
    rw [c] at hb
    exact hb.elim
theorem rUfrrrrlr_st {K : Nat → Nat} {n : Nat} {k : Nat} {vs : List jv} {j : Nat} {σ σ' : Nat → jcell} (h : ∀ a, a < n → ∀ q ∈ ra_dep.getD k [], q.1 = K a → aSm vs q (σ a) (σ' a)) (hb : rUfrrrrlr K n k (vs.take j) σ) : rUfrrrrlr K n k (vs.take j) σ' := by
  unfold rUfrrrrlr at hb ⊢
  cases c : Nat.ble k 337 with
  | true =>
    rw [c] at hb
    exact rUfrrrrlrl_st h hb
  | false =>
    rw [c] at hb
    exact rUfrrrrlrr_st h hb
theorem rUfrrrrl_st {K : Nat → Nat} {n : Nat} {k : Nat} {vs : List jv} {j : Nat} {σ σ' : Nat → jcell} (h : ∀ a, a < n → ∀ q ∈ ra_dep.getD k [], q.1 = K a → aSm vs q (σ a) (σ' a)) (hb : rUfrrrrl K n k (vs.take j) σ) : rUfrrrrl K n k (vs.take j) σ' := by
  unfold rUfrrrrl at hb ⊢
  cases c : Nat.ble k 336 with
  | true =>
    rw [c] at hb
    exact rUfrrrrll_st h hb
  | false =>
    rw [c] at hb
    exact rUfrrrrlr_st h hb
theorem rUfrrrrrl_st {K : Nat → Nat} {n : Nat} {k : Nat} {vs : List jv} {j : Nat} {σ σ' : Nat → jcell} (h : ∀ a, a < n → ∀ q ∈ ra_dep.getD k [], q.1 = K a → aSm vs q (σ a) (σ' a)) (hb : rUfrrrrrl K n k (vs.take j) σ) : rUfrrrrrl K n k (vs.take j) σ' := by
  unfold rUfrrrrrl at hb ⊢
  cases c : Nat.beq k 339 with
  | true =>
    rw [c] at hb
    obtain rfl := Nat.eq_of_beq_eq_true c
    exact rs_339 h hb
  | false =>
    rw [c] at hb
    exact hb.elim
theorem rUfrrrrrrl_st {K : Nat → Nat} {n : Nat} {k : Nat} {vs : List jv} {j : Nat} {σ σ' : Nat → jcell} (h : ∀ a, a < n → ∀ q ∈ ra_dep.getD k [], q.1 = K a → aSm vs q (σ a) (σ' a)) (hb : rUfrrrrrrl K n k (vs.take j) σ) : rUfrrrrrrl K n k (vs.take j) σ' := by
  unfold rUfrrrrrrl at hb ⊢
  cases c : Nat.beq k 340 with
  | true =>
    rw [c] at hb
    obtain rfl := Nat.eq_of_beq_eq_true c
    exact rs_340 h hb
  | false =>
    rw [c] at hb
    exact hb.elim
theorem rUfrrrrrrr_st {K : Nat → Nat} {n : Nat} {k : Nat} {vs : List jv} {j : Nat} {σ σ' : Nat → jcell} (h : ∀ a, a < n → ∀ q ∈ ra_dep.getD k [], q.1 = K a → aSm vs q (σ a) (σ' a)) (hb : rUfrrrrrrr K n k (vs.take j) σ) : rUfrrrrrrr K n k (vs.take j) σ' := by
  unfold rUfrrrrrrr at hb ⊢
  cases c : Nat.beq k 341 with
  | true =>
    rw [c] at hb
    obtain rfl := Nat.eq_of_beq_eq_true c
    exact rs_341 h hb
  | false =>
    rw [c] at hb
    exact hb.elim
theorem rUfrrrrrr_st {K : Nat → Nat} {n : Nat} {k : Nat} {vs : List jv} {j : Nat} {σ σ' : Nat → jcell} (h : ∀ a, a < n → ∀ q ∈ ra_dep.getD k [], q.1 = K a → aSm vs q (σ a) (σ' a)) (hb : rUfrrrrrr K n k (vs.take j) σ) : rUfrrrrrr K n k (vs.take j) σ' := by
  unfold rUfrrrrrr at hb ⊢
  cases c : Nat.ble k 340 with
  | true =>
    rw [c] at hb
    exact rUfrrrrrrl_st h hb
  | false =>
    rw [c] at hb
    exact rUfrrrrrrr_st h hb
theorem rUfrrrrr_st {K : Nat → Nat} {n : Nat} {k : Nat} {vs : List jv} {j : Nat} {σ σ' : Nat → jcell} (h : ∀ a, a < n → ∀ q ∈ ra_dep.getD k [], q.1 = K a → aSm vs q (σ a) (σ' a)) (hb : rUfrrrrr K n k (vs.take j) σ) : rUfrrrrr K n k (vs.take j) σ' := by
  unfold rUfrrrrr at hb ⊢
  cases c : Nat.ble k 339 with
  | true =>
    rw [c] at hb
    exact rUfrrrrrl_st h hb
  | false =>
    rw [c] at hb
    exact rUfrrrrrr_st h hb
theorem rUfrrrr_st {K : Nat → Nat} {n : Nat} {k : Nat} {vs : List jv} {j : Nat} {σ σ' : Nat → jcell} (h : ∀ a, a < n → ∀ q ∈ ra_dep.getD k [], q.1 = K a → aSm vs q (σ a) (σ' a)) (hb : rUfrrrr K n k (vs.take j) σ) : rUfrrrr K n k (vs.take j) σ' := by
  unfold rUfrrrr at hb ⊢
  cases c : Nat.ble k 338 with
  | true =>
    rw [c] at hb
    exact rUfrrrrl_st h hb
  | false =>
    rw [c] at hb
    exact rUfrrrrr_st h hb
theorem rUfrrr_st {K : Nat → Nat} {n : Nat} {k : Nat} {vs : List jv} {j : Nat} {σ σ' : Nat → jcell} (h : ∀ a, a < n → ∀ q ∈ ra_dep.getD k [], q.1 = K a → aSm vs q (σ a) (σ' a)) (hb : rUfrrr K n k (vs.take j) σ) : rUfrrr K n k (vs.take j) σ' := by
  unfold rUfrrr at hb ⊢
  cases c : Nat.ble k 335 with
  | true =>
    rw [c] at hb
    exact rUfrrrl_st h hb
  | false =>
    rw [c] at hb
    exact rUfrrrr_st h hb
theorem rUfrr_st {K : Nat → Nat} {n : Nat} {k : Nat} {vs : List jv} {j : Nat} {σ σ' : Nat → jcell} (h : ∀ a, a < n → ∀ q ∈ ra_dep.getD k [], q.1 = K a → aSm vs q (σ a) (σ' a)) (hb : rUfrr K n k (vs.take j) σ) : rUfrr K n k (vs.take j) σ' := by
  unfold rUfrr at hb ⊢
  cases c : Nat.ble k 330 with
  | true =>
    rw [c] at hb
    exact rUfrrl_st h hb
  | false =>
    rw [c] at hb
    exact rUfrrr_st h hb
theorem rUfr_st {K : Nat → Nat} {n : Nat} {k : Nat} {vs : List jv} {j : Nat} {σ σ' : Nat → jcell} (h : ∀ a, a < n → ∀ q ∈ ra_dep.getD k [], q.1 = K a → aSm vs q (σ a) (σ' a)) (hb : rUfr K n k (vs.take j) σ) : rUfr K n k (vs.take j) σ' := by
  unfold rUfr at hb ⊢
  cases c : Nat.ble k 319 with
  | true =>
    rw [c] at hb
    exact rUfrl_st h hb
  | false =>
    rw [c] at hb
    exact rUfrr_st h hb
theorem rUf_st {K : Nat → Nat} {n : Nat} {k : Nat} {vs : List jv} {j : Nat} {σ σ' : Nat → jcell} (h : ∀ a, a < n → ∀ q ∈ ra_dep.getD k [], q.1 = K a → aSm vs q (σ a) (σ' a)) (hb : rUf K n k (vs.take j) σ) : rUf K n k (vs.take j) σ' := by
  unfold rUf at hb ⊢
  cases c : Nat.ble k 290 with
  | true =>
    rw [c] at hb
    exact rUfl_st h hb
  | false =>
    rw [c] at hb
    exact rUfr_st h hb
theorem rUg_st {K : Nat → Nat} {n : Nat} {p : rP} {k : Nat} {vs : List jv} {j : Nat} {σ σ' : Nat → jcell} (h : ∀ a, a < n → ∀ q ∈ ra_dep.getD k [], q.1 = K a → aSm vs q (σ a) (σ' a)) (hb : rUg K n p k (vs.take j) σ) : rUg K n p k (vs.take j) σ' := by
  unfold rUg at hb ⊢
  cases c : Nat.beq k 449 with
  | true =>
    rw [c] at hb
    obtain rfl := Nat.eq_of_beq_eq_true c
    exact rs_449 (p := p) h hb
  | false =>
    rw [c] at hb
    exact hb.elim
theorem rB2_st {K : Nat → Nat} {n : Nat} {p : rP} {k : Nat} {vs : List jv} {j : Nat} {σ σ' : Nat → jcell} (h : ∀ a, a < n → ∀ q ∈ ra_dep.getD k [], q.1 = K a → aSm vs q (σ a) (σ' a)) (hb : rB2 K n p k (vs.take j) σ) : rB2 K n p k (vs.take j) σ' := by
  unfold rB2 at hb ⊢
  cases c1 : Nat.ble 1000 k with
  | true => rw [c1] at hb; exact hb.elim
  | false =>
    rw [c1] at hb
    cases c2 : Nat.ble 449 k with
    | true => rw [c2] at hb; exact rUg_st h hb
    | false =>
      rw [c2] at hb
      cases c3 : Nat.ble 237 k with
      | false => rw [c3] at hb; exact rB_st h hb
      | true =>
        rw [c3] at hb
        cases c4 : Nat.ble k 399 with
        | true => rw [c4] at hb; exact rUf_st h hb
        | false => rw [c4] at hb; exact rB_st h hb
theorem rG_op {K : Nat → Nat} {n : Nat} : aOc (rG K n) ra_dep := by
  intro h0 p o x y c σ h
  have h1 := rF_op (K := K) (n := n) h0 p o x y c σ h
  have ho : o < 18 := by
    by_cases c9 : o < 18
    · exact c9
    · exfalso
      unfold aOv at h
      split at h
      · split at h <;> first | omega | exact h
      · split at h <;> first | omega | exact h
      · split at h <;> first | omega | exact h
      · exact h
  refine (rFG ?_).mp h1
  unfold rOkr
  rw [if_pos (by omega), show (16 * (100 + o) + 3) / 16 = 100 + o by omega]
  unfold rOk
  rw [show Nat.ble (100 + o) 236 = true from Nat.ble_eq_true_of_le (by omega)]
  rfl
