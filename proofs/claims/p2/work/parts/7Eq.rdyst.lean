section
/-! the reference: what the facts of the third table look at -/
theorem rAt9_st {K : Nat → Nat} {n : Nat} {σ σ' : Nat → jcell} {vs : List jv} {d : List aDe} (h : ∀ a, a < n → ∀ q ∈ d, q.1 = K a → aSm vs q (σ a) (σ' a)) {a : Nat} {F : List Nat} {z : Option aF} {g : Nat → Int32} {t e : Int32} (hq : (62, F, z) ∈ d) (hf : 2 ∈ F ∧ 37 ∈ F ∧ 1 ∈ F) (hr : (63, [], none) ∈ d) (ho : rAt9 K n σ a g t e) : rAt9 K n σ' a g t e := by
  obtain ⟨⟨r, o, h1, h2, e9⟩, k1, k2⟩ := ho
  refine ⟨⟨r, rOb_st h hq hf.1 o, h1, h2, ?_⟩, rOb_st h hq hf.2.1 k1, rOb_st h hq hf.2.2 k2⟩
  rcases h r h1 _ hr h2.symm with e1 | ⟨c', f1, f2, e3, e4, -, e5⟩ | ⟨ty, m, g1, g2, f', z', e0, -⟩
  · rw [e1]; exact e9
  · rw [e3] at e9
    cases e9
  · cases e0
theorem rSt3_st {K : Nat → Nat} {n : Nat} {σ σ' : Nat → jcell} {vs : List jv} {d : List aDe} (h : ∀ a, a < n → ∀ q ∈ d, q.1 = K a → aSm vs q (σ a) (σ' a)) {a : Nat} {F : List Nat} {z : Option aF} {o : Int} {pa mo : Int → Int} {q0 : rQ} (hq : (62, F, z) ∈ d) (hf : 8 ∈ F ∧ 9 ∈ F ∧ 16 ∈ F ∧ 17 ∈ F) (r1 : (66, [], none) ∈ d) (r2 : (67, [], none) ∈ d) (r3 : (74, [], none) ∈ d) (r4 : (75, [], none) ∈ d) (ho : rSt3 K n σ a o pa mo q0) : rSt3 K n σ' a o pa mo q0 := by
  obtain ⟨h1, h2, z9, h3⟩ := ho
  exact ⟨rRy9_st h hq hf.1 r1 h1, rRy9_st h hq hf.2.1 r2 h2, z9, rSt9_st h hq hf.2.2.1 hf.2.2.2 r3 r4 h3⟩
theorem rs_342 {N : Int} {K : Nat → Nat} {n : Nat} {vs : List jv} {j : Nat} {σ σ' : Nat → jcell} (h : ∀ a, a < n → ∀ q ∈ rm_dep.getD 342 [], q.1 = K a → aSm vs q (σ a) (σ' a)) (hb : rb_342 N K n (vs.take j) σ) : rb_342 N K n (vs.take j) σ' := by
  exact hb
theorem rs_343 {N : Int} {K : Nat → Nat} {n : Nat} {vs : List jv} {j : Nat} {σ σ' : Nat → jcell} (h : ∀ a, a < n → ∀ q ∈ rm_dep.getD 343 [], q.1 = K a → aSm vs q (σ a) (σ' a)) (hb : rb_343 N K n (vs.take j) σ) : rb_343 N K n (vs.take j) σ' := by
  have m0 : ((62, [32, 33], none) : aDe) ∈ rm_dep.getD 343 [] := List.mem_of_getElem? (i := 0) rfl
  have m1 : ((85, [], none) : aDe) ∈ rm_dep.getD 343 [] := List.mem_of_getElem? (i := 1) rfl
  obtain ⟨a0, a1, hl, hb⟩ := rC_ri_e hb
  rw [hl]
  have hb : 0 ≤ a1.toInt → ∃ g c, rRo K n σ a0 62 32 85 2048 g ∧ rOb K n σ a0 62 33 (rI c) ∧ ∃ j, 0 ≤ j ∧ j < c.toInt ∧ (g j.toNat).toInt = a1.toInt := hb
  have r9 : 0 ≤ a1.toInt → ∃ g c, rRo K n σ' a0 62 32 85 2048 g ∧ rOb K n σ' a0 62 33 (rI c) ∧ ∃ j, 0 ≤ j ∧ j < c.toInt ∧ (g j.toNat).toInt = a1.toInt := by
    intro h9
    obtain ⟨g, c, r, o1, j⟩ := hb h9
    exact ⟨g, c, (rRo_st h m0 (by decide) m1 r), (rOb_st h m0 (by decide) o1), j⟩
  exact r9
theorem rs_344 {N : Int} {K : Nat → Nat} {n : Nat} {vs : List jv} {j : Nat} {σ σ' : Nat → jcell} (h : ∀ a, a < n → ∀ q ∈ rm_dep.getD 344 [], q.1 = K a → aSm vs q (σ a) (σ' a)) (hb : rb_344 N K n (vs.take j) σ) : rb_344 N K n (vs.take j) σ' := by
  have m0 : ((62, [32, 33], none) : aDe) ∈ rm_dep.getD 344 [] := List.mem_of_getElem? (i := 0) rfl
  have m1 : ((85, [], none) : aDe) ∈ rm_dep.getD 344 [] := List.mem_of_getElem? (i := 1) rfl
  obtain ⟨a0, a1, hl, hb⟩ := rC_ri_e hb
  rw [hl]
  have hb : 0 ≤ a1.toInt → ∃ g c, rRo K n σ a0 62 32 85 2048 g ∧ rOb K n σ a0 62 33 (rI c) ∧ ∃ j, 0 ≤ j ∧ j < c.toInt ∧ (g j.toNat).toInt = a1.toInt := hb
  have r9 : 0 ≤ a1.toInt → ∃ g c, rRo K n σ' a0 62 32 85 2048 g ∧ rOb K n σ' a0 62 33 (rI c) ∧ ∃ j, 0 ≤ j ∧ j < c.toInt ∧ (g j.toNat).toInt = a1.toInt := by
    intro h9
    obtain ⟨g, c, r, o1, j⟩ := hb h9
    exact ⟨g, c, (rRo_st h m0 (by decide) m1 r), (rOb_st h m0 (by decide) o1), j⟩
  exact r9
theorem rs_345 {N : Int} {K : Nat → Nat} {n : Nat} {vs : List jv} {j : Nat} {σ σ' : Nat → jcell} (h : ∀ a, a < n → ∀ q ∈ rm_dep.getD 345 [], q.1 = K a → aSm vs q (σ a) (σ' a)) (hb : rb_345 N K n (vs.take j) σ) : rb_345 N K n (vs.take j) σ' := by
  have m0 : ((62, [12], none) : aDe) ∈ rm_dep.getD 345 [] := List.mem_of_getElem? (i := 0) rfl
  have m1 : ((70, [], none) : aDe) ∈ rm_dep.getD 345 [] := List.mem_of_getElem? (i := 1) rfl
  obtain ⟨a0, a1, a2, hl, hb⟩ := rC_rii_e hb
  rw [hl]
  have hb : 0 ≤ 301 * a1.toInt + a2.toInt ∧ ∃ g, rRo K n σ a0 62 12 70 602 g ∧ (g (301 * a1.toInt + a2.toInt).toNat).toInt = 0 := hb
  have r9 : 0 ≤ 301 * a1.toInt + a2.toInt ∧ ∃ g, rRo K n σ' a0 62 12 70 602 g ∧ (g (301 * a1.toInt + a2.toInt).toNat).toInt = 0 := by
    obtain ⟨k0, g, r, e⟩ := hb
    exact ⟨k0, g, (rRo_st h m0 (by decide) m1 r), e⟩
  exact r9
theorem rs_346 {N : Int} {K : Nat → Nat} {n : Nat} {vs : List jv} {j : Nat} {σ σ' : Nat → jcell} (h : ∀ a, a < n → ∀ q ∈ rm_dep.getD 346 [], q.1 = K a → aSm vs q (σ a) (σ' a)) (hb : rb_346 N K n (vs.take j) σ) : rb_346 N K n (vs.take j) σ' := by
  have m0 : ((62, [12], none) : aDe) ∈ rm_dep.getD 346 [] := List.mem_of_getElem? (i := 0) rfl
  have m1 : ((70, [], none) : aDe) ∈ rm_dep.getD 346 [] := List.mem_of_getElem? (i := 1) rfl
  obtain ⟨a0, a1, a2, hl, hb⟩ := rC_rii_e hb
  rw [hl]
  have hb : 0 ≤ 301 * a1.toInt + a2.toInt ∧ ∃ g, rRo K n σ a0 62 12 70 602 g ∧ (g (301 * a1.toInt + a2.toInt).toNat).toInt ≤ 3 := hb
  have r9 : 0 ≤ 301 * a1.toInt + a2.toInt ∧ ∃ g, rRo K n σ' a0 62 12 70 602 g ∧ (g (301 * a1.toInt + a2.toInt).toNat).toInt ≤ 3 := by
    obtain ⟨k0, g, r, e⟩ := hb
    exact ⟨k0, g, (rRo_st h m0 (by decide) m1 r), e⟩
  exact r9
theorem rs_347 {N : Int} {K : Nat → Nat} {n : Nat} {vs : List jv} {j : Nat} {σ σ' : Nat → jcell} (h : ∀ a, a < n → ∀ q ∈ rm_dep.getD 347 [], q.1 = K a → aSm vs q (σ a) (σ' a)) (hb : rb_347 N K n (vs.take j) σ) : rb_347 N K n (vs.take j) σ' := by
  have m0 : ((62, [12], none) : aDe) ∈ rm_dep.getD 347 [] := List.mem_of_getElem? (i := 0) rfl
  have m1 : ((70, [], none) : aDe) ∈ rm_dep.getD 347 [] := List.mem_of_getElem? (i := 1) rfl
  obtain ⟨a0, a1, hl, hb⟩ := rC_ri_e hb
  rw [hl]
  have hb : 0 ≤ a1.toInt ∧ ∃ g, rRo K n σ a0 62 12 70 602 g ∧ (g a1.toInt.toNat).toInt = 0 := hb
  have r9 : 0 ≤ a1.toInt ∧ ∃ g, rRo K n σ' a0 62 12 70 602 g ∧ (g a1.toInt.toNat).toInt = 0 := by
    obtain ⟨k0, g, r, e⟩ := hb
    exact ⟨k0, g, (rRo_st h m0 (by decide) m1 r), e⟩
  exact r9
theorem rs_348 {N : Int} {K : Nat → Nat} {n : Nat} {vs : List jv} {j : Nat} {σ σ' : Nat → jcell} (h : ∀ a, a < n → ∀ q ∈ rm_dep.getD 348 [], q.1 = K a → aSm vs q (σ a) (σ' a)) (hb : rb_348 N K n (vs.take j) σ) : rb_348 N K n (vs.take j) σ' := by
  have m0 : ((62, [37, 1, 2], none) : aDe) ∈ rm_dep.getD 348 [] := List.mem_of_getElem? (i := 0) rfl
  have m1 : ((63, [], none) : aDe) ∈ rm_dep.getD 348 [] := List.mem_of_getElem? (i := 1) rfl
  obtain ⟨a0, a1, hl, hb⟩ := rC_ri_e hb
  rw [hl]
  have hb : ∃ g t e, rAt9 K n σ a0 g t e ∧ a1.toInt = rLk9 g t.toInt e.toInt := hb
  have r9 : ∃ g t e, rAt9 K n σ' a0 g t e ∧ a1.toInt = rLk9 g t.toInt e.toInt := by
    obtain ⟨g, t, e, h1, h2⟩ := hb
    exact ⟨g, t, e, rAt9_st h m0 (by decide) m1 h1, h2⟩
  exact r9
theorem rs_349 {N : Int} {K : Nat → Nat} {n : Nat} {vs : List jv} {j : Nat} {σ σ' : Nat → jcell} (h : ∀ a, a < n → ∀ q ∈ rm_dep.getD 349 [], q.1 = K a → aSm vs q (σ a) (σ' a)) (hb : rb_349 N K n (vs.take j) σ) : rb_349 N K n (vs.take j) σ' := by
  have m0 : ((62, [7, 8, 9, 10, 11, 16, 17], none) : aDe) ∈ rm_dep.getD 349 [] := List.mem_of_getElem? (i := 0) rfl
  have m1 : ((65, [], none) : aDe) ∈ rm_dep.getD 349 [] := List.mem_of_getElem? (i := 1) rfl
  have m2 : ((66, [], none) : aDe) ∈ rm_dep.getD 349 [] := List.mem_of_getElem? (i := 2) rfl
  have m3 : ((67, [], none) : aDe) ∈ rm_dep.getD 349 [] := List.mem_of_getElem? (i := 3) rfl
  have m4 : ((68, [], none) : aDe) ∈ rm_dep.getD 349 [] := List.mem_of_getElem? (i := 4) rfl
  have m5 : ((69, [], none) : aDe) ∈ rm_dep.getD 349 [] := List.mem_of_getElem? (i := 5) rfl
  have m6 : ((74, [], none) : aDe) ∈ rm_dep.getD 349 [] := List.mem_of_getElem? (i := 6) rfl
  have m7 : ((75, [], none) : aDe) ∈ rm_dep.getD 349 [] := List.mem_of_getElem? (i := 7) rfl
  obtain ⟨a0, a1, a2, hl, hb⟩ := rC_rii_e hb
  rw [hl]
  obtain ⟨C, y, h1, h2⟩ := hb
  exact ⟨C, y, (rTY_st h m0 (by decide) (by decide) m1 m2 m3 m4 m5 m6 m7 h1), h2⟩
theorem rs_350 {N : Int} {K : Nat → Nat} {n : Nat} {vs : List jv} {j : Nat} {σ σ' : Nat → jcell} (h : ∀ a, a < n → ∀ q ∈ rm_dep.getD 350 [], q.1 = K a → aSm vs q (σ a) (σ' a)) (hb : rb_350 N K n (vs.take j) σ) : rb_350 N K n (vs.take j) σ' := by
  have m0 : ((62, [18], none) : aDe) ∈ rm_dep.getD 350 [] := List.mem_of_getElem? (i := 0) rfl
  have m1 : ((76, [], none) : aDe) ∈ rm_dep.getD 350 [] := List.mem_of_getElem? (i := 1) rfl
  obtain ⟨a0, a1, a2, hl, hb⟩ := rC_rii_e hb
  rw [hl]
  have hb : 0 ≤ a1.toInt ∧ ∃ g, rRo K n σ a0 62 18 76 2 g ∧ (g a1.toInt.toNat).toInt = a2.toInt := hb
  have r9 : 0 ≤ a1.toInt ∧ ∃ g, rRo K n σ' a0 62 18 76 2 g ∧ (g a1.toInt.toNat).toInt = a2.toInt := by
    obtain ⟨k0, g, r, e⟩ := hb
    exact ⟨k0, g, (rRo_st h m0 (by decide) m1 r), e⟩
  exact r9
theorem rs_351 {N : Int} {K : Nat → Nat} {n : Nat} {vs : List jv} {j : Nat} {σ σ' : Nat → jcell} (h : ∀ a, a < n → ∀ q ∈ rm_dep.getD 351 [], q.1 = K a → aSm vs q (σ a) (σ' a)) (hb : rb_351 N K n (vs.take j) σ) : rb_351 N K n (vs.take j) σ' := by
  have m0 : ((62, [12], none) : aDe) ∈ rm_dep.getD 351 [] := List.mem_of_getElem? (i := 0) rfl
  have m1 : ((70, [], none) : aDe) ∈ rm_dep.getD 351 [] := List.mem_of_getElem? (i := 1) rfl
  obtain ⟨a0, a1, a2, hl, hb⟩ := rC_rii_e hb
  rw [hl]
  have hb : 1 ≤ a2.toInt → 0 ≤ 301 * a1.toInt + a2.toInt ∧ ∃ g, rRo K n σ a0 62 12 70 602 g ∧ (g (301 * a1.toInt + a2.toInt).toNat).toInt = 0 := hb
  have r9 : 1 ≤ a2.toInt → 0 ≤ 301 * a1.toInt + a2.toInt ∧ ∃ g, rRo K n σ' a0 62 12 70 602 g ∧ (g (301 * a1.toInt + a2.toInt).toNat).toInt = 0 := by
    intro h9
    obtain ⟨k0, g, r, e⟩ := hb h9
    exact ⟨k0, g, (rRo_st h m0 (by decide) m1 r), e⟩
  exact r9
theorem rs_352 {N : Int} {K : Nat → Nat} {n : Nat} {vs : List jv} {j : Nat} {σ σ' : Nat → jcell} (h : ∀ a, a < n → ∀ q ∈ rm_dep.getD 352 [], q.1 = K a → aSm vs q (σ a) (σ' a)) (hb : rb_352 N K n (vs.take j) σ) : rb_352 N K n (vs.take j) σ' := by
  have m0 : ((62, [8, 9, 16, 17], none) : aDe) ∈ rm_dep.getD 352 [] := List.mem_of_getElem? (i := 0) rfl
  have m1 : ((66, [], none) : aDe) ∈ rm_dep.getD 352 [] := List.mem_of_getElem? (i := 1) rfl
  have m2 : ((67, [], none) : aDe) ∈ rm_dep.getD 352 [] := List.mem_of_getElem? (i := 2) rfl
  have m3 : ((74, [], none) : aDe) ∈ rm_dep.getD 352 [] := List.mem_of_getElem? (i := 3) rfl
  have m4 : ((75, [], none) : aDe) ∈ rm_dep.getD 352 [] := List.mem_of_getElem? (i := 4) rfl
  have m5 : ((62, [32, 33], none) : aDe) ∈ rm_dep.getD 352 [] := List.mem_of_getElem? (i := 5) rfl
  have m6 : ((85, [], none) : aDe) ∈ rm_dep.getD 352 [] := List.mem_of_getElem? (i := 6) rfl
  obtain ⟨a0, a1, a2, hl, hb⟩ := rC_rii_e hb
  rw [hl]
  have hb : ∃ pa mo q0 c, rSt3 K n σ a0 a1.toInt pa mo q0 ∧ rOb K n σ a0 62 33 (rI c) ∧ rTL K n σ a0 c.toInt (rPo3 pa mo q0 a2.toInt) := hb
  have r9 : ∃ pa mo q0 c, rSt3 K n σ' a0 a1.toInt pa mo q0 ∧ rOb K n σ' a0 62 33 (rI c) ∧ rTL K n σ' a0 c.toInt (rPo3 pa mo q0 a2.toInt) := by
    obtain ⟨pa, mo, q0, c, h1, o1, g, r, kk⟩ := hb
    exact ⟨pa, mo, q0, c, (rSt3_st h m0 (by decide) m1 m2 m3 m4 h1), (rOb_st h m5 (by decide) o1), g, (rRo_st h m5 (by decide) m6 r), kk⟩
  exact r9
theorem rs_353 {N : Int} {K : Nat → Nat} {n : Nat} {vs : List jv} {j : Nat} {σ σ' : Nat → jcell} (h : ∀ a, a < n → ∀ q ∈ rm_dep.getD 353 [], q.1 = K a → aSm vs q (σ a) (σ' a)) (hb : rb_353 N K n (vs.take j) σ) : rb_353 N K n (vs.take j) σ' := by
  have m0 : ((109, [5], none) : aDe) ∈ rm_dep.getD 353 [] := List.mem_of_getElem? (i := 0) rfl
  have m1 : ((112, [], none) : aDe) ∈ rm_dep.getD 353 [] := List.mem_of_getElem? (i := 1) rfl
  obtain ⟨a0, hl, hb⟩ := rC_r_e hb
  rw [hl]
  have hb : ∃ g, rRo K n σ a0 109 5 112 6 g ∧ ∀ j : Nat, 2 ≤ j → j ≤ 5 → (g j).toInt ≤ 100000000 := hb
  have r9 : ∃ g, rRo K n σ' a0 109 5 112 6 g ∧ ∀ j : Nat, 2 ≤ j → j ≤ 5 → (g j).toInt ≤ 100000000 := by
    obtain ⟨g, r, kk⟩ := hb
    exact ⟨g, (rRo_st h m0 (by decide) m1 r), kk⟩
  exact r9
theorem rs_354 {N : Int} {K : Nat → Nat} {n : Nat} {vs : List jv} {j : Nat} {σ σ' : Nat → jcell} (h : ∀ a, a < n → ∀ q ∈ rm_dep.getD 354 [], q.1 = K a → aSm vs q (σ a) (σ' a)) (hb : rb_354 N K n (vs.take j) σ) : rb_354 N K n (vs.take j) σ' := by
  have m0 : ((62, [37, 1, 2], none) : aDe) ∈ rm_dep.getD 354 [] := List.mem_of_getElem? (i := 0) rfl
  have m1 : ((63, [], none) : aDe) ∈ rm_dep.getD 354 [] := List.mem_of_getElem? (i := 1) rfl
  obtain ⟨a0, a1, hl, hb⟩ := rC_ri_e hb
  rw [hl]
  have hb : ∃ g t e, rAt9 K n σ a0 g t e ∧ ((0 ≤ a1.toInt ∧ rRQ9 g t.toInt e.toInt) ∨ (a1.toInt < 0 ∧ ¬ rRQ9 g t.toInt e.toInt)) := hb
  have r9 : ∃ g t e, rAt9 K n σ' a0 g t e ∧ ((0 ≤ a1.toInt ∧ rRQ9 g t.toInt e.toInt) ∨ (a1.toInt < 0 ∧ ¬ rRQ9 g t.toInt e.toInt)) := by
    obtain ⟨g, t, e, h1, h2⟩ := hb
    exact ⟨g, t, e, rAt9_st h m0 (by decide) m1 h1, h2⟩
  exact r9
theorem rs_355 {N : Int} {K : Nat → Nat} {n : Nat} {vs : List jv} {j : Nat} {σ σ' : Nat → jcell} (h : ∀ a, a < n → ∀ q ∈ rm_dep.getD 355 [], q.1 = K a → aSm vs q (σ a) (σ' a)) (hb : rb_355 N K n (vs.take j) σ) : rb_355 N K n (vs.take j) σ' := by
  have m0 : ((62, [37, 1, 2], none) : aDe) ∈ rm_dep.getD 355 [] := List.mem_of_getElem? (i := 0) rfl
  have m1 : ((63, [], none) : aDe) ∈ rm_dep.getD 355 [] := List.mem_of_getElem? (i := 1) rfl
  obtain ⟨a0, hl, hb⟩ := rC_r_e hb
  rw [hl]
  have hb : ∃ g t e, rAt9 K n σ a0 g t e ∧ rRQ9 g t.toInt e.toInt := hb
  have r9 : ∃ g t e, rAt9 K n σ' a0 g t e ∧ rRQ9 g t.toInt e.toInt := by
    obtain ⟨g, t, e, h1, h2⟩ := hb
    exact ⟨g, t, e, rAt9_st h m0 (by decide) m1 h1, h2⟩
  exact r9
theorem rs_356 {N : Int} {K : Nat → Nat} {n : Nat} {vs : List jv} {j : Nat} {σ σ' : Nat → jcell} (h : ∀ a, a < n → ∀ q ∈ rm_dep.getD 356 [], q.1 = K a → aSm vs q (σ a) (σ' a)) (hb : rb_356 N K n (vs.take j) σ) : rb_356 N K n (vs.take j) σ' := by
  have m0 : ((62, [37, 1, 2], none) : aDe) ∈ rm_dep.getD 356 [] := List.mem_of_getElem? (i := 0) rfl
  have m1 : ((63, [], none) : aDe) ∈ rm_dep.getD 356 [] := List.mem_of_getElem? (i := 1) rfl
  obtain ⟨a0, a1, hl, hb⟩ := rC_ri_e hb
  rw [hl]
  have hb : a1.toInt = 0 → ∃ g t e, rAt9 K n σ a0 g t e ∧ rRQ9 g t.toInt e.toInt := hb
  have r9 : a1.toInt = 0 → ∃ g t e, rAt9 K n σ' a0 g t e ∧ rRQ9 g t.toInt e.toInt := by
    intro h9
    obtain ⟨g, t, e, h1, h2⟩ := hb h9
    exact ⟨g, t, e, rAt9_st h m0 (by decide) m1 h1, h2⟩
  exact r9
theorem rs_357 {N : Int} {K : Nat → Nat} {n : Nat} {vs : List jv} {j : Nat} {σ σ' : Nat → jcell} (h : ∀ a, a < n → ∀ q ∈ rm_dep.getD 357 [], q.1 = K a → aSm vs q (σ a) (σ' a)) (hb : rb_357 N K n (vs.take j) σ) : rb_357 N K n (vs.take j) σ' := by
  have m0 : ((62, [37, 1, 2], none) : aDe) ∈ rm_dep.getD 357 [] := List.mem_of_getElem? (i := 0) rfl
  have m1 : ((63, [], none) : aDe) ∈ rm_dep.getD 357 [] := List.mem_of_getElem? (i := 1) rfl
  obtain ⟨a0, a1, hl, hb⟩ := rC_ri_e hb
  rw [hl]
  have hb : ∃ g t e, rAt9 K n σ a0 g t e ∧ ((a1.toInt = 1 ∧ rGw9 g t.toInt e.toInt 49 45 48) ∨ (a1.toInt = 0 ∧ ¬ rGw9 g t.toInt e.toInt 49 45 48)) := hb
  have r9 : ∃ g t e, rAt9 K n σ' a0 g t e ∧ ((a1.toInt = 1 ∧ rGw9 g t.toInt e.toInt 49 45 48) ∨ (a1.toInt = 0 ∧ ¬ rGw9 g t.toInt e.toInt 49 45 48)) := by
    obtain ⟨g, t, e, h1, h2⟩ := hb
    exact ⟨g, t, e, rAt9_st h m0 (by decide) m1 h1, h2⟩
  exact r9
theorem rs_358 {N : Int} {K : Nat → Nat} {n : Nat} {vs : List jv} {j : Nat} {σ σ' : Nat → jcell} (h : ∀ a, a < n → ∀ q ∈ rm_dep.getD 358 [], q.1 = K a → aSm vs q (σ a) (σ' a)) (hb : rb_358 N K n (vs.take j) σ) : rb_358 N K n (vs.take j) σ' := by
  have m0 : ((62, [37, 1, 2], none) : aDe) ∈ rm_dep.getD 358 [] := List.mem_of_getElem? (i := 0) rfl
  have m1 : ((63, [], none) : aDe) ∈ rm_dep.getD 358 [] := List.mem_of_getElem? (i := 1) rfl
  obtain ⟨a0, a1, hl, hb⟩ := rC_ri_e hb
  rw [hl]
  have hb : ∃ g t e, rAt9 K n σ a0 g t e ∧ ((a1.toInt = 1 ∧ rHf9 g t.toInt e.toInt) ∨ (a1.toInt = 0 ∧ ¬ rHf9 g t.toInt e.toInt)) := hb
  have r9 : ∃ g t e, rAt9 K n σ' a0 g t e ∧ ((a1.toInt = 1 ∧ rHf9 g t.toInt e.toInt) ∨ (a1.toInt = 0 ∧ ¬ rHf9 g t.toInt e.toInt)) := by
    obtain ⟨g, t, e, h1, h2⟩ := hb
    exact ⟨g, t, e, rAt9_st h m0 (by decide) m1 h1, h2⟩
  exact r9
theorem rs_359 {N : Int} {K : Nat → Nat} {n : Nat} {vs : List jv} {j : Nat} {σ σ' : Nat → jcell} (h : ∀ a, a < n → ∀ q ∈ rm_dep.getD 359 [], q.1 = K a → aSm vs q (σ a) (σ' a)) (hb : rb_359 N K n (vs.take j) σ) : rb_359 N K n (vs.take j) σ' := by
  exact hb
theorem rs_360 {N : Int} {K : Nat → Nat} {n : Nat} {vs : List jv} {j : Nat} {σ σ' : Nat → jcell} (h : ∀ a, a < n → ∀ q ∈ rm_dep.getD 360 [], q.1 = K a → aSm vs q (σ a) (σ' a)) (hb : rb_360 N K n (vs.take j) σ) : rb_360 N K n (vs.take j) σ' := by
  exact hb
theorem rs_361 {N : Int} {K : Nat → Nat} {n : Nat} {vs : List jv} {j : Nat} {σ σ' : Nat → jcell} (h : ∀ a, a < n → ∀ q ∈ rm_dep.getD 361 [], q.1 = K a → aSm vs q (σ a) (σ' a)) (hb : rb_361 N K n (vs.take j) σ) : rb_361 N K n (vs.take j) σ' := by
  exact hb
theorem rs_362 {N : Int} {K : Nat → Nat} {n : Nat} {vs : List jv} {j : Nat} {σ σ' : Nat → jcell} (h : ∀ a, a < n → ∀ q ∈ rm_dep.getD 362 [], q.1 = K a → aSm vs q (σ a) (σ' a)) (hb : rb_362 N K n (vs.take j) σ) : rb_362 N K n (vs.take j) σ' := by
  exact hb
theorem rs_363 {N : Int} {K : Nat → Nat} {n : Nat} {vs : List jv} {j : Nat} {σ σ' : Nat → jcell} (h : ∀ a, a < n → ∀ q ∈ rm_dep.getD 363 [], q.1 = K a → aSm vs q (σ a) (σ' a)) (hb : rb_363 N K n (vs.take j) σ) : rb_363 N K n (vs.take j) σ' := by
  exact hb
theorem rs_364 {N : Int} {K : Nat → Nat} {n : Nat} {vs : List jv} {j : Nat} {σ σ' : Nat → jcell} (h : ∀ a, a < n → ∀ q ∈ rm_dep.getD 364 [], q.1 = K a → aSm vs q (σ a) (σ' a)) (hb : rb_364 N K n (vs.take j) σ) : rb_364 N K n (vs.take j) σ' := by
  have m0 : ((62, [37, 1, 2], none) : aDe) ∈ rm_dep.getD 364 [] := List.mem_of_getElem? (i := 0) rfl
  have m1 : ((63, [], none) : aDe) ∈ rm_dep.getD 364 [] := List.mem_of_getElem? (i := 1) rfl
  obtain ⟨a0, a1, hl, hb⟩ := rC_ri_e hb
  rw [hl]
  have hb : ∃ g t e, rAt9 K n σ a0 g t e ∧ ((a1.toInt = 1 ∧ rGw9 g t.toInt e.toInt 48 45 49) ∨ (a1.toInt = 0 ∧ ¬ rGw9 g t.toInt e.toInt 48 45 49)) := hb
  have r9 : ∃ g t e, rAt9 K n σ' a0 g t e ∧ ((a1.toInt = 1 ∧ rGw9 g t.toInt e.toInt 48 45 49) ∨ (a1.toInt = 0 ∧ ¬ rGw9 g t.toInt e.toInt 48 45 49)) := by
    obtain ⟨g, t, e, h1, h2⟩ := hb
    exact ⟨g, t, e, rAt9_st h m0 (by decide) m1 h1, h2⟩
  exact r9
theorem rs_365 {N : Int} {K : Nat → Nat} {n : Nat} {vs : List jv} {j : Nat} {σ σ' : Nat → jcell} (h : ∀ a, a < n → ∀ q ∈ rm_dep.getD 365 [], q.1 = K a → aSm vs q (σ a) (σ' a)) (hb : rb_365 N K n (vs.take j) σ) : rb_365 N K n (vs.take j) σ' := by
  have m0 : ((62, [37, 1, 2], none) : aDe) ∈ rm_dep.getD 365 [] := List.mem_of_getElem? (i := 0) rfl
  have m1 : ((63, [], none) : aDe) ∈ rm_dep.getD 365 [] := List.mem_of_getElem? (i := 1) rfl
  obtain ⟨a0, a1, hl, hb⟩ := rC_ri_e hb
  rw [hl]
  have hb : ∃ g t e, rAt9 K n σ a0 g t e ∧ ((a1.toInt = 1 ∧ rGw9 g t.toInt e.toInt 49 47 50) ∨ (a1.toInt = 0 ∧ ¬ rGw9 g t.toInt e.toInt 49 47 50)) := hb
  have r9 : ∃ g t e, rAt9 K n σ' a0 g t e ∧ ((a1.toInt = 1 ∧ rGw9 g t.toInt e.toInt 49 47 50) ∨ (a1.toInt = 0 ∧ ¬ rGw9 g t.toInt e.toInt 49 47 50)) := by
    obtain ⟨g, t, e, h1, h2⟩ := hb
    exact ⟨g, t, e, rAt9_st h m0 (by decide) m1 h1, h2⟩
  exact r9
theorem rs_366 {N : Int} {K : Nat → Nat} {n : Nat} {vs : List jv} {j : Nat} {σ σ' : Nat → jcell} (h : ∀ a, a < n → ∀ q ∈ rm_dep.getD 366 [], q.1 = K a → aSm vs q (σ a) (σ' a)) (hb : rb_366 N K n (vs.take j) σ) : rb_366 N K n (vs.take j) σ' := by
  have m0 : ((62, [37, 1, 2], none) : aDe) ∈ rm_dep.getD 366 [] := List.mem_of_getElem? (i := 0) rfl
  have m1 : ((63, [], none) : aDe) ∈ rm_dep.getD 366 [] := List.mem_of_getElem? (i := 1) rfl
  obtain ⟨a0, hl, hb⟩ := rC_r_e hb
  rw [hl]
  have hb : ∃ g t e, rAt9 K n σ a0 g t e ∧ ¬ rLk9 g t.toInt e.toInt = 42 := hb
  have r9 : ∃ g t e, rAt9 K n σ' a0 g t e ∧ ¬ rLk9 g t.toInt e.toInt = 42 := by
    obtain ⟨g, t, e, h1, h2⟩ := hb
    exact ⟨g, t, e, rAt9_st h m0 (by decide) m1 h1, h2⟩
  exact r9
theorem rs_367 {N : Int} {K : Nat → Nat} {n : Nat} {vs : List jv} {j : Nat} {σ σ' : Nat → jcell} (h : ∀ a, a < n → ∀ q ∈ rm_dep.getD 367 [], q.1 = K a → aSm vs q (σ a) (σ' a)) (hb : rb_367 N K n (vs.take j) σ) : rb_367 N K n (vs.take j) σ' := by
  have m0 : ((62, [7, 8, 9, 10, 11, 16, 17], none) : aDe) ∈ rm_dep.getD 367 [] := List.mem_of_getElem? (i := 0) rfl
  have m1 : ((65, [], none) : aDe) ∈ rm_dep.getD 367 [] := List.mem_of_getElem? (i := 1) rfl
  have m2 : ((66, [], none) : aDe) ∈ rm_dep.getD 367 [] := List.mem_of_getElem? (i := 2) rfl
  have m3 : ((67, [], none) : aDe) ∈ rm_dep.getD 367 [] := List.mem_of_getElem? (i := 3) rfl
  have m4 : ((68, [], none) : aDe) ∈ rm_dep.getD 367 [] := List.mem_of_getElem? (i := 4) rfl
  have m5 : ((69, [], none) : aDe) ∈ rm_dep.getD 367 [] := List.mem_of_getElem? (i := 5) rfl
  have m6 : ((74, [], none) : aDe) ∈ rm_dep.getD 367 [] := List.mem_of_getElem? (i := 6) rfl
  have m7 : ((75, [], none) : aDe) ∈ rm_dep.getD 367 [] := List.mem_of_getElem? (i := 7) rfl
  have m8 : ((62, [24, 25, 26, 27], none) : aDe) ∈ rm_dep.getD 367 [] := List.mem_of_getElem? (i := 8) rfl
  have m9 : ((82, [], none) : aDe) ∈ rm_dep.getD 367 [] := List.mem_of_getElem? (i := 9) rfl
  have m10 : ((62, [32, 33], none) : aDe) ∈ rm_dep.getD 367 [] := List.mem_of_getElem? (i := 10) rfl
  have m11 : ((85, [], none) : aDe) ∈ rm_dep.getD 367 [] := List.mem_of_getElem? (i := 11) rfl
  have m12 : ((62, [29, 5, 6], none) : aDe) ∈ rm_dep.getD 367 [] := List.mem_of_getElem? (i := 12) rfl
  obtain ⟨a0, hl, hb⟩ := rC_r_e hb
  rw [hl]
  have hb : ∃ g h : Int32, rOb K n σ a0 62 5 (rI g) ∧ rOb K n σ a0 62 6 (rI h) ∧ (∃ C y, rTY K n σ a0 g.toInt C y ∧ 0 ≤ h.toInt ∧ h.toInt ≤ C) ∧ rSL9 K n σ a0 g.toInt h.toInt := hb
  have r9 : ∃ g h : Int32, rOb K n σ' a0 62 5 (rI g) ∧ rOb K n σ' a0 62 6 (rI h) ∧ (∃ C y, rTY K n σ' a0 g.toInt C y ∧ 0 ≤ h.toInt ∧ h.toInt ≤ C) ∧ rSL9 K n σ' a0 g.toInt h.toInt := by
    obtain ⟨g, hh, w1, w2, ⟨C, y, hY, k1, k2⟩, pa, mo, q0, z, c, v, p1, p2, p3, ⟨h1, ⟨v1, o1, e1⟩, ⟨v2, o2, e2⟩, ⟨v3, o3, e3⟩⟩, p5, ⟨p6, p7, g9, p8, p9⟩, p10, p11, p12⟩ := hb
    exact ⟨g, hh, (rOb_st h m12 (by decide) w1), (rOb_st h m12 (by decide) w2), ⟨C, y, (rTY_st h m0 (by decide) (by decide) m1 m2 m3 m4 m5 m6 m7 hY), k1, k2⟩, pa, mo, q0, z, c, v, rRy9_st h m0 (by decide) m2 p1, rRy9_st h m0 (by decide) m3 p2, rSt9_st h m0 (by decide) (by decide) m6 m7 p3, ⟨(rMg_st h m8 (by decide) m9 h1), ⟨v1, (rOb_st h m8 (by decide) o1), e1⟩, ⟨v2, (rOb_st h m8 (by decide) o2), e2⟩, ⟨v3, (rOb_st h m8 (by decide) o3), e3⟩⟩, p5, ⟨(rOb_st h m10 (by decide) p6), p7, g9, (rRo_st h m10 (by decide) m11 p8), p9⟩, (rOb_st h m12 (by decide) p10), p11, p12⟩
  exact r9
theorem rs_368 {N : Int} {K : Nat → Nat} {n : Nat} {vs : List jv} {j : Nat} {σ σ' : Nat → jcell} (h : ∀ a, a < n → ∀ q ∈ rm_dep.getD 368 [], q.1 = K a → aSm vs q (σ a) (σ' a)) (hb : rb_368 N K n (vs.take j) σ) : rb_368 N K n (vs.take j) σ' := by
  have m0 : ((62, [7, 8, 9, 10, 11, 16, 17], none) : aDe) ∈ rm_dep.getD 368 [] := List.mem_of_getElem? (i := 0) rfl
  have m1 : ((65, [], none) : aDe) ∈ rm_dep.getD 368 [] := List.mem_of_getElem? (i := 1) rfl
  have m2 : ((66, [], none) : aDe) ∈ rm_dep.getD 368 [] := List.mem_of_getElem? (i := 2) rfl
  have m3 : ((67, [], none) : aDe) ∈ rm_dep.getD 368 [] := List.mem_of_getElem? (i := 3) rfl
  have m4 : ((68, [], none) : aDe) ∈ rm_dep.getD 368 [] := List.mem_of_getElem? (i := 4) rfl
  have m5 : ((69, [], none) : aDe) ∈ rm_dep.getD 368 [] := List.mem_of_getElem? (i := 5) rfl
  have m6 : ((74, [], none) : aDe) ∈ rm_dep.getD 368 [] := List.mem_of_getElem? (i := 6) rfl
  have m7 : ((75, [], none) : aDe) ∈ rm_dep.getD 368 [] := List.mem_of_getElem? (i := 7) rfl
  obtain ⟨a0, a1, a2, hl, hb⟩ := rC_rii_e hb
  rw [hl]
  have hb : a2.toInt = 0 → ∃ C y, rTY K n σ a0 a1.toInt C y := hb
  have r9 : a2.toInt = 0 → ∃ C y, rTY K n σ' a0 a1.toInt C y := by
    intro h9
    obtain ⟨C, y, hY⟩ := hb h9
    exact ⟨C, y, (rTY_st h m0 (by decide) (by decide) m1 m2 m3 m4 m5 m6 m7 hY)⟩
  exact r9
theorem rs_369 {N : Int} {K : Nat → Nat} {n : Nat} {vs : List jv} {j : Nat} {σ σ' : Nat → jcell} (h : ∀ a, a < n → ∀ q ∈ rm_dep.getD 369 [], q.1 = K a → aSm vs q (σ a) (σ' a)) (hb : rb_369 N K n (vs.take j) σ) : rb_369 N K n (vs.take j) σ' := by
  have m0 : ((62, [7, 8, 9, 10, 11, 16, 17], none) : aDe) ∈ rm_dep.getD 369 [] := List.mem_of_getElem? (i := 0) rfl
  have m1 : ((65, [], none) : aDe) ∈ rm_dep.getD 369 [] := List.mem_of_getElem? (i := 1) rfl
  have m2 : ((66, [], none) : aDe) ∈ rm_dep.getD 369 [] := List.mem_of_getElem? (i := 2) rfl
  have m3 : ((67, [], none) : aDe) ∈ rm_dep.getD 369 [] := List.mem_of_getElem? (i := 3) rfl
  have m4 : ((68, [], none) : aDe) ∈ rm_dep.getD 369 [] := List.mem_of_getElem? (i := 4) rfl
  have m5 : ((69, [], none) : aDe) ∈ rm_dep.getD 369 [] := List.mem_of_getElem? (i := 5) rfl
  have m6 : ((74, [], none) : aDe) ∈ rm_dep.getD 369 [] := List.mem_of_getElem? (i := 6) rfl
  have m7 : ((75, [], none) : aDe) ∈ rm_dep.getD 369 [] := List.mem_of_getElem? (i := 7) rfl
  obtain ⟨a0, a1, hl, hb⟩ := rC_ri_e hb
  rw [hl]
  obtain ⟨C, y, h1, h2⟩ := hb
  exact ⟨C, y, (rTY_st h m0 (by decide) (by decide) m1 m2 m3 m4 m5 m6 m7 h1), h2⟩
theorem rs_370 {N : Int} {K : Nat → Nat} {n : Nat} {vs : List jv} {j : Nat} {σ σ' : Nat → jcell} (h : ∀ a, a < n → ∀ q ∈ rm_dep.getD 370 [], q.1 = K a → aSm vs q (σ a) (σ' a)) (hb : rb_370 N K n (vs.take j) σ) : rb_370 N K n (vs.take j) σ' := by
  have m0 : ((55, [14], none) : aDe) ∈ rm_dep.getD 370 [] := List.mem_of_getElem? (i := 0) rfl
  have m1 : ((58, [], some ([(1, 1)], 0)) : aDe) ∈ rm_dep.getD 370 [] := List.mem_of_getElem? (i := 1) rfl
  obtain ⟨a0, a1, hl, hb⟩ := rC_ri_e hb
  rw [hl]
  have hb : ∃ g, rRo K n σ a0 55 14 58 32768 g ∧ ∀ j, 0 ≤ j → j < a1.toInt → (g j.toNat).toInt ≤ 65535 := hb
  have r9 : ∃ g, rRo K n σ' a0 55 14 58 32768 g ∧ ∀ j, 0 ≤ j → j < a1.toInt → (g j.toNat).toInt ≤ 65535 := by
    obtain ⟨g, r, kk⟩ := hb
    obtain ⟨n1g, n1, n1e⟩ := rRo_sb h m0 (by decide) m1 (b := (1 * a1.toInt + 0)) (fun x hx => rVa1 (x := a1) hx (rTak (j := j) (by rw [hl]; rfl))) r
    exact ⟨n1g, n1, fun j j0 j1 => by rw [n1e _ (by omega)]; exact kk j j0 j1⟩
  exact r9
theorem rs_371 {N : Int} {K : Nat → Nat} {n : Nat} {vs : List jv} {j : Nat} {σ σ' : Nat → jcell} (h : ∀ a, a < n → ∀ q ∈ rm_dep.getD 371 [], q.1 = K a → aSm vs q (σ a) (σ' a)) (hb : rb_371 N K n (vs.take j) σ) : rb_371 N K n (vs.take j) σ' := by
  have m0 : ((55, [14], none) : aDe) ∈ rm_dep.getD 371 [] := List.mem_of_getElem? (i := 0) rfl
  have m1 : ((58, [], some ([(1, 1)], 1)) : aDe) ∈ rm_dep.getD 371 [] := List.mem_of_getElem? (i := 1) rfl
  obtain ⟨a0, a1, hl, hb⟩ := rC_ri_e hb
  rw [hl]
  have hb : ∃ g, rRo K n σ a0 55 14 58 32768 g ∧ ∀ j, 0 ≤ j → j < a1.toInt + 1 → (g j.toNat).toInt ≤ 65535 := hb
  have r9 : ∃ g, rRo K n σ' a0 55 14 58 32768 g ∧ ∀ j, 0 ≤ j → j < a1.toInt + 1 → (g j.toNat).toInt ≤ 65535 := by
    obtain ⟨g, r, kk⟩ := hb
    obtain ⟨n1g, n1, n1e⟩ := rRo_sb h m0 (by decide) m1 (b := (1 * a1.toInt + 1)) (fun x hx => rVa1 (x := a1) hx (rTak (j := j) (by rw [hl]; rfl))) r
    exact ⟨n1g, n1, fun j j0 j1 => by rw [n1e _ (by omega)]; exact kk j j0 j1⟩
  exact r9
theorem rs_372 {N : Int} {K : Nat → Nat} {n : Nat} {vs : List jv} {j : Nat} {σ σ' : Nat → jcell} (h : ∀ a, a < n → ∀ q ∈ rm_dep.getD 372 [], q.1 = K a → aSm vs q (σ a) (σ' a)) (hb : rb_372 N K n (vs.take j) σ) : rb_372 N K n (vs.take j) σ' := by
  have m0 : ((55, [14, 15], none) : aDe) ∈ rm_dep.getD 372 [] := List.mem_of_getElem? (i := 0) rfl
  have m1 : ((58, [], some ([(1, 1)], 0)) : aDe) ∈ rm_dep.getD 372 [] := List.mem_of_getElem? (i := 1) rfl
  have m2 : ((59, [], some ([(1, 1)], 0)) : aDe) ∈ rm_dep.getD 372 [] := List.mem_of_getElem? (i := 2) rfl
  obtain ⟨a0, a1, hl, hb⟩ := rC_ri_e hb
  rw [hl]
  have hb : ∃ g h, rRo K n σ a0 55 14 58 32768 g ∧ rRo K n σ a0 55 15 59 32768 h ∧ ∀ j, 0 ≤ j → j < a1.toInt → (g j.toNat).toInt < (h j.toNat).toInt := hb
  have r9 : ∃ g h, rRo K n σ' a0 55 14 58 32768 g ∧ rRo K n σ' a0 55 15 59 32768 h ∧ ∀ j, 0 ≤ j → j < a1.toInt → (g j.toNat).toInt < (h j.toNat).toInt := by
    obtain ⟨g, hh, r1, r2, kk⟩ := hb
    obtain ⟨n1g, n1, n1e⟩ := rRo_sb h m0 (by decide) m1 (b := (1 * a1.toInt + 0)) (fun x hx => rVa1 (x := a1) hx (rTak (j := j) (by rw [hl]; rfl))) r1
    obtain ⟨n2g, n2, n2e⟩ := rRo_sb h m0 (by decide) m2 (b := (1 * a1.toInt + 0)) (fun x hx => rVa1 (x := a1) hx (rTak (j := j) (by rw [hl]; rfl))) r2
    exact ⟨n1g, n2g, n1, n2, fun j j0 j1 => by rw [n1e _ (by omega), n2e _ (by omega)]; exact kk j j0 j1⟩
  exact r9
theorem rs_373 {N : Int} {K : Nat → Nat} {n : Nat} {vs : List jv} {j : Nat} {σ σ' : Nat → jcell} (h : ∀ a, a < n → ∀ q ∈ rm_dep.getD 373 [], q.1 = K a → aSm vs q (σ a) (σ' a)) (hb : rb_373 N K n (vs.take j) σ) : rb_373 N K n (vs.take j) σ' := by
  have m0 : ((55, [14, 15], none) : aDe) ∈ rm_dep.getD 373 [] := List.mem_of_getElem? (i := 0) rfl
  have m1 : ((58, [], some ([(1, 1)], 1)) : aDe) ∈ rm_dep.getD 373 [] := List.mem_of_getElem? (i := 1) rfl
  have m2 : ((59, [], some ([(1, 1)], 1)) : aDe) ∈ rm_dep.getD 373 [] := List.mem_of_getElem? (i := 2) rfl
  obtain ⟨a0, a1, hl, hb⟩ := rC_ri_e hb
  rw [hl]
  have hb : ∃ g h, rRo K n σ a0 55 14 58 32768 g ∧ rRo K n σ a0 55 15 59 32768 h ∧ ∀ j, 0 ≤ j → j < a1.toInt + 1 → (g j.toNat).toInt < (h j.toNat).toInt := hb
  have r9 : ∃ g h, rRo K n σ' a0 55 14 58 32768 g ∧ rRo K n σ' a0 55 15 59 32768 h ∧ ∀ j, 0 ≤ j → j < a1.toInt + 1 → (g j.toNat).toInt < (h j.toNat).toInt := by
    obtain ⟨g, hh, r1, r2, kk⟩ := hb
    obtain ⟨n1g, n1, n1e⟩ := rRo_sb h m0 (by decide) m1 (b := (1 * a1.toInt + 1)) (fun x hx => rVa1 (x := a1) hx (rTak (j := j) (by rw [hl]; rfl))) r1
    obtain ⟨n2g, n2, n2e⟩ := rRo_sb h m0 (by decide) m2 (b := (1 * a1.toInt + 1)) (fun x hx => rVa1 (x := a1) hx (rTak (j := j) (by rw [hl]; rfl))) r2
    exact ⟨n1g, n2g, n1, n2, fun j j0 j1 => by rw [n1e _ (by omega), n2e _ (by omega)]; exact kk j j0 j1⟩
  exact r9
theorem rs_374 {N : Int} {K : Nat → Nat} {n : Nat} {vs : List jv} {j : Nat} {σ σ' : Nat → jcell} (h : ∀ a, a < n → ∀ q ∈ rm_dep.getD 374 [], q.1 = K a → aSm vs q (σ a) (σ' a)) (hb : rb_374 N K n (vs.take j) σ) : rb_374 N K n (vs.take j) σ' := by
  have m0 : ((55, [14], none) : aDe) ∈ rm_dep.getD 374 [] := List.mem_of_getElem? (i := 0) rfl
  have m1 : ((58, [], some ([(1, 1)], 1)) : aDe) ∈ rm_dep.getD 374 [] := List.mem_of_getElem? (i := 1) rfl
  obtain ⟨a0, a1, a2, hl, hb⟩ := rC_rii_e hb
  rw [hl]
  have hb : 0 ≤ a1.toInt ∧ ∃ g, rRo K n σ a0 55 14 58 32768 g ∧ (g a1.toInt.toNat).toInt = a2.toInt := hb
  have r9 : 0 ≤ a1.toInt ∧ ∃ g, rRo K n σ' a0 55 14 58 32768 g ∧ (g a1.toInt.toNat).toInt = a2.toInt := by
    obtain ⟨k0, g, r, e⟩ := hb
    obtain ⟨n1g, n1, n1e⟩ := rRo_sb h m0 (by decide) m1 (b := (1 * a1.toInt + 1)) (fun x hx => rVa1 (x := a1) hx (rTak (j := j) (by rw [hl]; rfl))) r
    exact ⟨k0, n1g, n1, by rw [n1e _ (by omega)]; exact e⟩
  exact r9
theorem rs_375 {N : Int} {K : Nat → Nat} {n : Nat} {vs : List jv} {j : Nat} {σ σ' : Nat → jcell} (h : ∀ a, a < n → ∀ q ∈ rm_dep.getD 375 [], q.1 = K a → aSm vs q (σ a) (σ' a)) (hb : rb_375 N K n (vs.take j) σ) : rb_375 N K n (vs.take j) σ' := by
  have m0 : ((55, [14], none) : aDe) ∈ rm_dep.getD 375 [] := List.mem_of_getElem? (i := 0) rfl
  have m1 : ((58, [], none) : aDe) ∈ rm_dep.getD 375 [] := List.mem_of_getElem? (i := 1) rfl
  obtain ⟨a0, a1, a2, hl, hb⟩ := rC_rii_e hb
  rw [hl]
  have hb : 0 ≤ a1.toInt ∧ ∃ g, rRo K n σ a0 55 14 58 32768 g ∧ (g a1.toInt.toNat).toInt + a2.toInt ≤ 65536 := hb
  have r9 : 0 ≤ a1.toInt ∧ ∃ g, rRo K n σ' a0 55 14 58 32768 g ∧ (g a1.toInt.toNat).toInt + a2.toInt ≤ 65536 := by
    obtain ⟨k0, g, r, e⟩ := hb
    exact ⟨k0, g, (rRo_st h m0 (by decide) m1 r), e⟩
  exact r9
theorem rs_376 {N : Int} {K : Nat → Nat} {n : Nat} {vs : List jv} {j : Nat} {σ σ' : Nat → jcell} (h : ∀ a, a < n → ∀ q ∈ rm_dep.getD 376 [], q.1 = K a → aSm vs q (σ a) (σ' a)) (hb : rb_376 N K n (vs.take j) σ) : rb_376 N K n (vs.take j) σ' := by
  have m0 : ((88, [2], none) : aDe) ∈ rm_dep.getD 376 [] := List.mem_of_getElem? (i := 0) rfl
  have m1 : ((90, [], none) : aDe) ∈ rm_dep.getD 376 [] := List.mem_of_getElem? (i := 1) rfl
  obtain ⟨a0, hl, hb⟩ := rC_r_e hb
  rw [hl]
  obtain ⟨M, h1, h2⟩ := hb
  exact ⟨M, (rMg_st h m0 (by decide) m1 h1), h2⟩
theorem rs_377 {N : Int} {K : Nat → Nat} {n : Nat} {vs : List jv} {j : Nat} {σ σ' : Nat → jcell} (h : ∀ a, a < n → ∀ q ∈ rm_dep.getD 377 [], q.1 = K a → aSm vs q (σ a) (σ' a)) (hb : rb_377 N K n (vs.take j) σ) : rb_377 N K n (vs.take j) σ' := by
  have m0 : ((88, [2], none) : aDe) ∈ rm_dep.getD 377 [] := List.mem_of_getElem? (i := 0) rfl
  have m1 : ((90, [], none) : aDe) ∈ rm_dep.getD 377 [] := List.mem_of_getElem? (i := 1) rfl
  obtain ⟨a0, a1, hl, hb⟩ := rC_ri_e hb
  rw [hl]
  obtain ⟨M, h1, h2⟩ := hb
  exact ⟨M, (rMg_st h m0 (by decide) m1 h1), h2⟩
theorem rs_378 {N : Int} {K : Nat → Nat} {n : Nat} {vs : List jv} {j : Nat} {σ σ' : Nat → jcell} (h : ∀ a, a < n → ∀ q ∈ rm_dep.getD 378 [], q.1 = K a → aSm vs q (σ a) (σ' a)) (hb : rb_378 N K n (vs.take j) σ) : rb_378 N K n (vs.take j) σ' := by
  have m0 : ((88, [2], none) : aDe) ∈ rm_dep.getD 378 [] := List.mem_of_getElem? (i := 0) rfl
  have m1 : ((90, [], none) : aDe) ∈ rm_dep.getD 378 [] := List.mem_of_getElem? (i := 1) rfl
  obtain ⟨a0, a1, a2, hl, hb⟩ := rC_rii_e hb
  rw [hl]
  obtain ⟨M, h1, h2⟩ := hb
  exact ⟨M, (rMg_st h m0 (by decide) m1 h1), h2⟩
theorem rs_379 {N : Int} {K : Nat → Nat} {n : Nat} {vs : List jv} {j : Nat} {σ σ' : Nat → jcell} (h : ∀ a, a < n → ∀ q ∈ rm_dep.getD 379 [], q.1 = K a → aSm vs q (σ a) (σ' a)) (hb : rb_379 N K n (vs.take j) σ) : rb_379 N K n (vs.take j) σ' := by
  have m0 : ((88, [2], none) : aDe) ∈ rm_dep.getD 379 [] := List.mem_of_getElem? (i := 0) rfl
  have m1 : ((90, [], none) : aDe) ∈ rm_dep.getD 379 [] := List.mem_of_getElem? (i := 1) rfl
  obtain ⟨a0, a1, a2, a3, hl, hb⟩ := rC_riii_e hb
  rw [hl]
  obtain ⟨M, h1, h2⟩ := hb
  exact ⟨M, (rMg_st h m0 (by decide) m1 h1), h2⟩
theorem rs_380 {N : Int} {K : Nat → Nat} {n : Nat} {vs : List jv} {j : Nat} {σ σ' : Nat → jcell} (h : ∀ a, a < n → ∀ q ∈ rm_dep.getD 380 [], q.1 = K a → aSm vs q (σ a) (σ' a)) (hb : rb_380 N K n (vs.take j) σ) : rb_380 N K n (vs.take j) σ' := by
  have m0 : ((88, [2], none) : aDe) ∈ rm_dep.getD 380 [] := List.mem_of_getElem? (i := 0) rfl
  have m1 : ((90, [], none) : aDe) ∈ rm_dep.getD 380 [] := List.mem_of_getElem? (i := 1) rfl
  obtain ⟨a0, a1, a2, a3, hl, hb⟩ := rC_riii_e hb
  rw [hl]
  obtain ⟨M, h1, h2⟩ := hb
  exact ⟨M, (rMg_st h m0 (by decide) m1 h1), h2⟩
theorem rs_381 {N : Int} {K : Nat → Nat} {n : Nat} {vs : List jv} {j : Nat} {σ σ' : Nat → jcell} (h : ∀ a, a < n → ∀ q ∈ rm_dep.getD 381 [], q.1 = K a → aSm vs q (σ a) (σ' a)) (hb : rb_381 N K n (vs.take j) σ) : rb_381 N K n (vs.take j) σ' := by
  have m0 : ((88, [2], none) : aDe) ∈ rm_dep.getD 381 [] := List.mem_of_getElem? (i := 0) rfl
  have m1 : ((90, [], none) : aDe) ∈ rm_dep.getD 381 [] := List.mem_of_getElem? (i := 1) rfl
  obtain ⟨a0, a1, a2, hl, hb⟩ := rC_rii_e hb
  rw [hl]
  obtain ⟨M, h1, h2⟩ := hb
  exact ⟨M, (rMg_st h m0 (by decide) m1 h1), h2⟩
theorem rs_382 {N : Int} {K : Nat → Nat} {n : Nat} {vs : List jv} {j : Nat} {σ σ' : Nat → jcell} (h : ∀ a, a < n → ∀ q ∈ rm_dep.getD 382 [], q.1 = K a → aSm vs q (σ a) (σ' a)) (hb : rb_382 N K n (vs.take j) σ) : rb_382 N K n (vs.take j) σ' := by
  have m0 : ((62, [24], none) : aDe) ∈ rm_dep.getD 382 [] := List.mem_of_getElem? (i := 0) rfl
  have m1 : ((88, [2], none) : aDe) ∈ rm_dep.getD 382 [] := List.mem_of_getElem? (i := 1) rfl
  have m2 : ((90, [], none) : aDe) ∈ rm_dep.getD 382 [] := List.mem_of_getElem? (i := 2) rfl
  have m3 : ((82, [], some ([(2, 1)], 0)) : aDe) ∈ rm_dep.getD 382 [] := List.mem_of_getElem? (i := 3) rfl
  obtain ⟨a0, a1, a2, hl, hb⟩ := rC_rri_e hb
  rw [hl]
  have hb : ∃ g h, rRo K n σ a0 62 24 82 64 g ∧ rRo K n σ a1 88 2 90 64 h ∧ ∀ j, 0 ≤ j → j < a2.toInt → j ≤ 63 → (g j.toNat).toInt = (h j.toNat).toInt := hb
  have r9 : ∃ g h, rRo K n σ' a0 62 24 82 64 g ∧ rRo K n σ' a1 88 2 90 64 h ∧ ∀ j, 0 ≤ j → j < a2.toInt → j ≤ 63 → (g j.toNat).toInt = (h j.toNat).toInt := by
    obtain ⟨g, hh, r1, r2, kk⟩ := hb
    obtain ⟨n1g, n1, n1e⟩ := rRo_sb h m0 (by decide) m3 (b := (1 * a2.toInt + 0)) (fun x hx => rVa1 (x := a2) hx (rTak (j := j) (by rw [hl]; rfl))) r1
    exact ⟨n1g, hh, n1, (rRo_st h m1 (by decide) m2 r2), fun j j0 j1 j2 => by rw [n1e _ (by omega)]; exact kk j j0 j1 j2⟩
  exact r9
theorem rs_383 {N : Int} {K : Nat → Nat} {n : Nat} {vs : List jv} {j : Nat} {σ σ' : Nat → jcell} (h : ∀ a, a < n → ∀ q ∈ rm_dep.getD 383 [], q.1 = K a → aSm vs q (σ a) (σ' a)) (hb : rb_383 N K n (vs.take j) σ) : rb_383 N K n (vs.take j) σ' := by
  have m0 : ((62, [24], none) : aDe) ∈ rm_dep.getD 383 [] := List.mem_of_getElem? (i := 0) rfl
  have m1 : ((88, [2], none) : aDe) ∈ rm_dep.getD 383 [] := List.mem_of_getElem? (i := 1) rfl
  have m2 : ((90, [], none) : aDe) ∈ rm_dep.getD 383 [] := List.mem_of_getElem? (i := 2) rfl
  have m3 : ((82, [], some ([(2, 1)], 1)) : aDe) ∈ rm_dep.getD 383 [] := List.mem_of_getElem? (i := 3) rfl
  obtain ⟨a0, a1, a2, hl, hb⟩ := rC_rri_e hb
  rw [hl]
  have hb : ∃ g h, rRo K n σ a0 62 24 82 64 g ∧ rRo K n σ a1 88 2 90 64 h ∧ ∀ j, 0 ≤ j → j < a2.toInt + 1 → j ≤ 63 → (g j.toNat).toInt = (h j.toNat).toInt := hb
  have r9 : ∃ g h, rRo K n σ' a0 62 24 82 64 g ∧ rRo K n σ' a1 88 2 90 64 h ∧ ∀ j, 0 ≤ j → j < a2.toInt + 1 → j ≤ 63 → (g j.toNat).toInt = (h j.toNat).toInt := by
    obtain ⟨g, hh, r1, r2, kk⟩ := hb
    obtain ⟨n1g, n1, n1e⟩ := rRo_sb h m0 (by decide) m3 (b := (1 * a2.toInt + 1)) (fun x hx => rVa1 (x := a2) hx (rTak (j := j) (by rw [hl]; rfl))) r1
    exact ⟨n1g, hh, n1, (rRo_st h m1 (by decide) m2 r2), fun j j0 j1 j2 => by rw [n1e _ (by omega)]; exact kk j j0 j1 j2⟩
  exact r9
theorem rs_384 {N : Int} {K : Nat → Nat} {n : Nat} {vs : List jv} {j : Nat} {σ σ' : Nat → jcell} (h : ∀ a, a < n → ∀ q ∈ rm_dep.getD 384 [], q.1 = K a → aSm vs q (σ a) (σ' a)) (hb : rb_384 N K n (vs.take j) σ) : rb_384 N K n (vs.take j) σ' := by
  have m0 : ((88, [2], none) : aDe) ∈ rm_dep.getD 384 [] := List.mem_of_getElem? (i := 0) rfl
  have m1 : ((90, [], none) : aDe) ∈ rm_dep.getD 384 [] := List.mem_of_getElem? (i := 1) rfl
  obtain ⟨a0, a1, hl, hb⟩ := rC_ri_e hb
  rw [hl]
  obtain ⟨M, h1, h2⟩ := hb
  exact ⟨M, (rMg_st h m0 (by decide) m1 h1), h2⟩
theorem rs_385 {N : Int} {K : Nat → Nat} {n : Nat} {vs : List jv} {j : Nat} {σ σ' : Nat → jcell} (h : ∀ a, a < n → ∀ q ∈ rm_dep.getD 385 [], q.1 = K a → aSm vs q (σ a) (σ' a)) (hb : rb_385 N K n (vs.take j) σ) : rb_385 N K n (vs.take j) σ' := by
  exact hb
theorem rs_386 {N : Int} {K : Nat → Nat} {n : Nat} {vs : List jv} {j : Nat} {σ σ' : Nat → jcell} (h : ∀ a, a < n → ∀ q ∈ rm_dep.getD 386 [], q.1 = K a → aSm vs q (σ a) (σ' a)) (hb : rb_386 N K n (vs.take j) σ) : rb_386 N K n (vs.take j) σ' := by
  have m0 : ((88, [2, 3, 4, 5], none) : aDe) ∈ rm_dep.getD 386 [] := List.mem_of_getElem? (i := 0) rfl
  have m1 : ((90, [], none) : aDe) ∈ rm_dep.getD 386 [] := List.mem_of_getElem? (i := 1) rfl
  obtain ⟨a0, a1, hl, hb⟩ := rC_ri_e hb
  rw [hl]
  have hb : a1.toInt = 0 → rFO K n σ a0 ∧ ∃ M, rMe K n σ a0 M ∧ rVal M := hb
  have r9 : a1.toInt = 0 → rFO K n σ' a0 ∧ ∃ M, rMe K n σ' a0 M ∧ rVal M := by
    intro h9
    obtain ⟨⟨M, v, P, hm, o1, o2, e1⟩, M2, hm2, e2⟩ := hb h9
    exact ⟨⟨M, v, P, (rMg_st h m0 (by decide) m1 hm), (rOb_st h m0 (by decide) o1), (rOb_st h m0 (by decide) o2), e1⟩, M2, (rMg_st h m0 (by decide) m1 hm2), e2⟩
  exact r9
theorem rs_387 {N : Int} {K : Nat → Nat} {n : Nat} {vs : List jv} {j : Nat} {σ σ' : Nat → jcell} (h : ∀ a, a < n → ∀ q ∈ rm_dep.getD 387 [], q.1 = K a → aSm vs q (σ a) (σ' a)) (hb : rb_387 N K n (vs.take j) σ) : rb_387 N K n (vs.take j) σ' := by
  have m0 : ((62, [29], none) : aDe) ∈ rm_dep.getD 387 [] := List.mem_of_getElem? (i := 0) rfl
  obtain ⟨a0, hl, hb⟩ := rC_r_e hb
  rw [hl]
  have hb : ∃ v : Int32, rOb K n σ a0 62 29 (rI v) ∧ 0 ≤ v.toInt ∧ v.toInt ≤ 999 := hb
  have r9 : ∃ v : Int32, rOb K n σ' a0 62 29 (rI v) ∧ 0 ≤ v.toInt ∧ v.toInt ≤ 999 := by
    obtain ⟨v, o1, h1, h2⟩ := hb
    exact ⟨v, (rOb_st h m0 (by decide) o1), h1, h2⟩
  exact r9
theorem rs_388 {N : Int} {K : Nat → Nat} {n : Nat} {vs : List jv} {j : Nat} {σ σ' : Nat → jcell} (h : ∀ a, a < n → ∀ q ∈ rm_dep.getD 388 [], q.1 = K a → aSm vs q (σ a) (σ' a)) (hb : rb_388 N K n (vs.take j) σ) : rb_388 N K n (vs.take j) σ' := by
  have m0 : ((62, [31], none) : aDe) ∈ rm_dep.getD 388 [] := List.mem_of_getElem? (i := 0) rfl
  have m1 : ((84, [], none) : aDe) ∈ rm_dep.getD 388 [] := List.mem_of_getElem? (i := 1) rfl
  obtain ⟨a0, hl, hb⟩ := rC_r_e hb
  rw [hl]
  have hb : ∃ g, rRo K n σ a0 62 31 84 5 g ∧ 0 ≤ (g 4).toInt ∧ (g 4).toInt ≤ 999 := hb
  have r9 : ∃ g, rRo K n σ' a0 62 31 84 5 g ∧ 0 ≤ (g 4).toInt ∧ (g 4).toInt ≤ 999 := by
    obtain ⟨g, r1, h1, h2⟩ := hb
    exact ⟨g, (rRo_st h m0 (by decide) m1 r1), h1, h2⟩
  exact r9
theorem rs_389 {N : Int} {K : Nat → Nat} {n : Nat} {vs : List jv} {j : Nat} {σ σ' : Nat → jcell} (h : ∀ a, a < n → ∀ q ∈ rm_dep.getD 389 [], q.1 = K a → aSm vs q (σ a) (σ' a)) (hb : rb_389 N K n (vs.take j) σ) : rb_389 N K n (vs.take j) σ' := by
  have m0 : ((62, [7, 8, 9, 10, 11, 16, 17], none) : aDe) ∈ rm_dep.getD 389 [] := List.mem_of_getElem? (i := 0) rfl
  have m1 : ((65, [], none) : aDe) ∈ rm_dep.getD 389 [] := List.mem_of_getElem? (i := 1) rfl
  have m2 : ((66, [], none) : aDe) ∈ rm_dep.getD 389 [] := List.mem_of_getElem? (i := 2) rfl
  have m3 : ((67, [], none) : aDe) ∈ rm_dep.getD 389 [] := List.mem_of_getElem? (i := 3) rfl
  have m4 : ((68, [], none) : aDe) ∈ rm_dep.getD 389 [] := List.mem_of_getElem? (i := 4) rfl
  have m5 : ((69, [], none) : aDe) ∈ rm_dep.getD 389 [] := List.mem_of_getElem? (i := 5) rfl
  have m6 : ((74, [], none) : aDe) ∈ rm_dep.getD 389 [] := List.mem_of_getElem? (i := 6) rfl
  have m7 : ((75, [], none) : aDe) ∈ rm_dep.getD 389 [] := List.mem_of_getElem? (i := 7) rfl
  have m8 : ((55, [17], none) : aDe) ∈ rm_dep.getD 389 [] := List.mem_of_getElem? (i := 8) rfl
  have m9 : ((60, [], some ([(4, 1)], 0)) : aDe) ∈ rm_dep.getD 389 [] := List.mem_of_getElem? (i := 9) rfl
  obtain ⟨a0, a1, a2, a3, a4, a5, hl, hb⟩ := rC_rriiii_e hb
  rw [hl]
  have hb : ∃ C y, rTY K n σ a1 a2.toInt C y ∧ 0 ≤ a3.toInt ∧ a3.toInt ≤ C ∧ 0 ≤ a4.toInt ∧ rPthM K n σ a0 y a3.toInt a4.toInt ∧ a5.toInt = rUa y.1 a4.toInt.toNat a3.toInt ∧ 0 ≤ a5.toInt ∧ a5.toInt ≤ C := hb
  have r9 : ∃ C y, rTY K n σ' a1 a2.toInt C y ∧ 0 ≤ a3.toInt ∧ a3.toInt ≤ C ∧ 0 ≤ a4.toInt ∧ rPthM K n σ' a0 y a3.toInt a4.toInt ∧ a5.toInt = rUa y.1 a4.toInt.toNat a3.toInt ∧ 0 ≤ a5.toInt ∧ a5.toInt ≤ C := by
    obtain ⟨C, y, hY, k1, k2, k3, ⟨g, r, k4⟩, k5⟩ := hb
    obtain ⟨n1g, n1, n1e⟩ := rRo_sb h m8 (by decide) m9 (b := (1 * a4.toInt + 0)) (fun x hx => rVa1 (x := a4) hx (rTak (j := j) (by rw [hl]; rfl))) r
    exact ⟨C, y, (rTY_st h m0 (by decide) (by decide) m1 m2 m3 m4 m5 m6 m7 hY), k1, k2, k3, ⟨n1g, n1, fun i i0 i1 => by rw [n1e _ (by omega)]; exact k4 i i0 i1⟩, k5⟩
  exact r9
theorem rs_390 {N : Int} {K : Nat → Nat} {n : Nat} {vs : List jv} {j : Nat} {σ σ' : Nat → jcell} (h : ∀ a, a < n → ∀ q ∈ rm_dep.getD 390 [], q.1 = K a → aSm vs q (σ a) (σ' a)) (hb : rb_390 N K n (vs.take j) σ) : rb_390 N K n (vs.take j) σ' := by
  have m0 : ((62, [7, 8, 9, 10, 11, 16, 17], none) : aDe) ∈ rm_dep.getD 390 [] := List.mem_of_getElem? (i := 0) rfl
  have m1 : ((65, [], none) : aDe) ∈ rm_dep.getD 390 [] := List.mem_of_getElem? (i := 1) rfl
  have m2 : ((66, [], none) : aDe) ∈ rm_dep.getD 390 [] := List.mem_of_getElem? (i := 2) rfl
  have m3 : ((67, [], none) : aDe) ∈ rm_dep.getD 390 [] := List.mem_of_getElem? (i := 3) rfl
  have m4 : ((68, [], none) : aDe) ∈ rm_dep.getD 390 [] := List.mem_of_getElem? (i := 4) rfl
  have m5 : ((69, [], none) : aDe) ∈ rm_dep.getD 390 [] := List.mem_of_getElem? (i := 5) rfl
  have m6 : ((74, [], none) : aDe) ∈ rm_dep.getD 390 [] := List.mem_of_getElem? (i := 6) rfl
  have m7 : ((75, [], none) : aDe) ∈ rm_dep.getD 390 [] := List.mem_of_getElem? (i := 7) rfl
  have m8 : ((55, [17], none) : aDe) ∈ rm_dep.getD 390 [] := List.mem_of_getElem? (i := 8) rfl
  have m9 : ((60, [], some ([(4, 1)], 1)) : aDe) ∈ rm_dep.getD 390 [] := List.mem_of_getElem? (i := 9) rfl
  obtain ⟨a0, a1, a2, a3, a4, a5, hl, hb⟩ := rC_rriiii_e hb
  rw [hl]
  have hb : ∃ C y, rTY K n σ a1 a2.toInt C y ∧ 0 ≤ a3.toInt ∧ a3.toInt ≤ C ∧ 0 ≤ a4.toInt ∧ rPthM K n σ a0 y a3.toInt (a4.toInt + 1) ∧ a5.toInt = rUa y.1 a4.toInt.toNat a3.toInt ∧ 1 ≤ a5.toInt ∧ a5.toInt ≤ C := hb
  have r9 : ∃ C y, rTY K n σ' a1 a2.toInt C y ∧ 0 ≤ a3.toInt ∧ a3.toInt ≤ C ∧ 0 ≤ a4.toInt ∧ rPthM K n σ' a0 y a3.toInt (a4.toInt + 1) ∧ a5.toInt = rUa y.1 a4.toInt.toNat a3.toInt ∧ 1 ≤ a5.toInt ∧ a5.toInt ≤ C := by
    obtain ⟨C, y, hY, k1, k2, k3, ⟨g, r, k4⟩, k5⟩ := hb
    obtain ⟨n1g, n1, n1e⟩ := rRo_sb h m8 (by decide) m9 (b := (1 * a4.toInt + 1)) (fun x hx => rVa1 (x := a4) hx (rTak (j := j) (by rw [hl]; rfl))) r
    exact ⟨C, y, (rTY_st h m0 (by decide) (by decide) m1 m2 m3 m4 m5 m6 m7 hY), k1, k2, k3, ⟨n1g, n1, fun i i0 i1 => by rw [n1e _ (by omega)]; exact k4 i i0 i1⟩, k5⟩
  exact r9
theorem rs_391 {N : Int} {K : Nat → Nat} {n : Nat} {vs : List jv} {j : Nat} {σ σ' : Nat → jcell} (h : ∀ a, a < n → ∀ q ∈ rm_dep.getD 391 [], q.1 = K a → aSm vs q (σ a) (σ' a)) (hb : rb_391 N K n (vs.take j) σ) : rb_391 N K n (vs.take j) σ' := by
  have m0 : ((62, [7, 8, 9, 10, 11, 16, 17], none) : aDe) ∈ rm_dep.getD 391 [] := List.mem_of_getElem? (i := 0) rfl
  have m1 : ((65, [], none) : aDe) ∈ rm_dep.getD 391 [] := List.mem_of_getElem? (i := 1) rfl
  have m2 : ((66, [], none) : aDe) ∈ rm_dep.getD 391 [] := List.mem_of_getElem? (i := 2) rfl
  have m3 : ((67, [], none) : aDe) ∈ rm_dep.getD 391 [] := List.mem_of_getElem? (i := 3) rfl
  have m4 : ((68, [], none) : aDe) ∈ rm_dep.getD 391 [] := List.mem_of_getElem? (i := 4) rfl
  have m5 : ((69, [], none) : aDe) ∈ rm_dep.getD 391 [] := List.mem_of_getElem? (i := 5) rfl
  have m6 : ((74, [], none) : aDe) ∈ rm_dep.getD 391 [] := List.mem_of_getElem? (i := 6) rfl
  have m7 : ((75, [], none) : aDe) ∈ rm_dep.getD 391 [] := List.mem_of_getElem? (i := 7) rfl
  have m8 : ((55, [17], none) : aDe) ∈ rm_dep.getD 391 [] := List.mem_of_getElem? (i := 8) rfl
  have m9 : ((60, [], none) : aDe) ∈ rm_dep.getD 391 [] := List.mem_of_getElem? (i := 9) rfl
  obtain ⟨a0, a1, a2, a3, a4, hl, hb⟩ := rC_rriii_e hb
  rw [hl]
  have hb : ∃ C y, rTY K n σ a1 a2.toInt C y ∧ 0 ≤ a3.toInt ∧ a3.toInt ≤ C ∧ 0 ≤ a4.toInt ∧ rPthM K n σ a0 y a3.toInt a4.toInt ∧ rUa y.1 a4.toInt.toNat a3.toInt = 0 := hb
  have r9 : ∃ C y, rTY K n σ' a1 a2.toInt C y ∧ 0 ≤ a3.toInt ∧ a3.toInt ≤ C ∧ 0 ≤ a4.toInt ∧ rPthM K n σ' a0 y a3.toInt a4.toInt ∧ rUa y.1 a4.toInt.toNat a3.toInt = 0 := by
    obtain ⟨C, y, hY, k1, k2, k3, ⟨g, r, k4⟩, k5⟩ := hb
    exact ⟨C, y, (rTY_st h m0 (by decide) (by decide) m1 m2 m3 m4 m5 m6 m7 hY), k1, k2, k3, ⟨g, (rRo_st h m8 (by decide) m9 r), k4⟩, k5⟩
  exact r9
theorem rs_392 {N : Int} {K : Nat → Nat} {n : Nat} {vs : List jv} {j : Nat} {σ σ' : Nat → jcell} (h : ∀ a, a < n → ∀ q ∈ rm_dep.getD 392 [], q.1 = K a → aSm vs q (σ a) (σ' a)) (hb : rb_392 N K n (vs.take j) σ) : rb_392 N K n (vs.take j) σ' := by
  have m0 : ((88, [2], none) : aDe) ∈ rm_dep.getD 392 [] := List.mem_of_getElem? (i := 0) rfl
  have m1 : ((62, [16], none) : aDe) ∈ rm_dep.getD 392 [] := List.mem_of_getElem? (i := 1) rfl
  have m2 : ((74, [], none) : aDe) ∈ rm_dep.getD 392 [] := List.mem_of_getElem? (i := 2) rfl
  have m3 : ((90, [], some ([(3, 1)], 0)) : aDe) ∈ rm_dep.getD 392 [] := List.mem_of_getElem? (i := 3) rfl
  obtain ⟨a0, a1, a2, a3, hl, hb⟩ := rC_rrii_e hb
  rw [hl]
  have hb : 0 ≤ a2.toInt ∧ ∃ g5 gm, rRo K n σ a1 62 16 74 128 g5 ∧ rRo K n σ a0 88 2 90 64 gm ∧ ∀ j, 0 ≤ j → j < a3.toInt → j ≤ 63 → (gm j.toNat).toInt = (g5 (64 * a2.toInt + j).toNat).toInt := hb
  have r9 : 0 ≤ a2.toInt ∧ ∃ g5 gm, rRo K n σ' a1 62 16 74 128 g5 ∧ rRo K n σ' a0 88 2 90 64 gm ∧ ∀ j, 0 ≤ j → j < a3.toInt → j ≤ 63 → (gm j.toNat).toInt = (g5 (64 * a2.toInt + j).toNat).toInt := by
    obtain ⟨k0, g5, gm, r5, rm, kk⟩ := hb
    obtain ⟨n1g, n1, n1e⟩ := rRo_sb h m0 (by decide) m3 (b := (1 * a3.toInt + 0)) (fun x hx => rVa1 (x := a3) hx (rTak (j := j) (by rw [hl]; rfl))) rm
    exact ⟨k0, g5, n1g, (rRo_st h m1 (by decide) m2 r5), n1, fun j j0 j1 j2 => by rw [n1e _ (by omega)]; exact kk j j0 j1 j2⟩
  exact r9
theorem rs_393 {N : Int} {K : Nat → Nat} {n : Nat} {vs : List jv} {j : Nat} {σ σ' : Nat → jcell} (h : ∀ a, a < n → ∀ q ∈ rm_dep.getD 393 [], q.1 = K a → aSm vs q (σ a) (σ' a)) (hb : rb_393 N K n (vs.take j) σ) : rb_393 N K n (vs.take j) σ' := by
  have m0 : ((88, [2], none) : aDe) ∈ rm_dep.getD 393 [] := List.mem_of_getElem? (i := 0) rfl
  have m1 : ((62, [16], none) : aDe) ∈ rm_dep.getD 393 [] := List.mem_of_getElem? (i := 1) rfl
  have m2 : ((74, [], none) : aDe) ∈ rm_dep.getD 393 [] := List.mem_of_getElem? (i := 2) rfl
  have m3 : ((90, [], some ([(3, 1)], 1)) : aDe) ∈ rm_dep.getD 393 [] := List.mem_of_getElem? (i := 3) rfl
  obtain ⟨a0, a1, a2, a3, hl, hb⟩ := rC_rrii_e hb
  rw [hl]
  have hb : 0 ≤ a2.toInt ∧ ∃ g5 gm, rRo K n σ a1 62 16 74 128 g5 ∧ rRo K n σ a0 88 2 90 64 gm ∧ ∀ j, 0 ≤ j → j < a3.toInt + 1 → j ≤ 63 → (gm j.toNat).toInt = (g5 (64 * a2.toInt + j).toNat).toInt := hb
  have r9 : 0 ≤ a2.toInt ∧ ∃ g5 gm, rRo K n σ' a1 62 16 74 128 g5 ∧ rRo K n σ' a0 88 2 90 64 gm ∧ ∀ j, 0 ≤ j → j < a3.toInt + 1 → j ≤ 63 → (gm j.toNat).toInt = (g5 (64 * a2.toInt + j).toNat).toInt := by
    obtain ⟨k0, g5, gm, r5, rm, kk⟩ := hb
    obtain ⟨n1g, n1, n1e⟩ := rRo_sb h m0 (by decide) m3 (b := (1 * a3.toInt + 1)) (fun x hx => rVa1 (x := a3) hx (rTak (j := j) (by rw [hl]; rfl))) rm
    exact ⟨k0, g5, n1g, (rRo_st h m1 (by decide) m2 r5), n1, fun j j0 j1 j2 => by rw [n1e _ (by omega)]; exact kk j j0 j1 j2⟩
  exact r9
theorem rs_394 {N : Int} {K : Nat → Nat} {n : Nat} {vs : List jv} {j : Nat} {σ σ' : Nat → jcell} (h : ∀ a, a < n → ∀ q ∈ rm_dep.getD 394 [], q.1 = K a → aSm vs q (σ a) (σ' a)) (hb : rb_394 N K n (vs.take j) σ) : rb_394 N K n (vs.take j) σ' := by
  have m0 : ((62, [7, 8, 9, 10, 11, 16, 17], none) : aDe) ∈ rm_dep.getD 394 [] := List.mem_of_getElem? (i := 0) rfl
  have m1 : ((65, [], none) : aDe) ∈ rm_dep.getD 394 [] := List.mem_of_getElem? (i := 1) rfl
  have m2 : ((66, [], none) : aDe) ∈ rm_dep.getD 394 [] := List.mem_of_getElem? (i := 2) rfl
  have m3 : ((67, [], none) : aDe) ∈ rm_dep.getD 394 [] := List.mem_of_getElem? (i := 3) rfl
  have m4 : ((68, [], none) : aDe) ∈ rm_dep.getD 394 [] := List.mem_of_getElem? (i := 4) rfl
  have m5 : ((69, [], none) : aDe) ∈ rm_dep.getD 394 [] := List.mem_of_getElem? (i := 5) rfl
  have m6 : ((74, [], none) : aDe) ∈ rm_dep.getD 394 [] := List.mem_of_getElem? (i := 6) rfl
  have m7 : ((75, [], none) : aDe) ∈ rm_dep.getD 394 [] := List.mem_of_getElem? (i := 7) rfl
  have m8 : ((55, [17], none) : aDe) ∈ rm_dep.getD 394 [] := List.mem_of_getElem? (i := 8) rfl
  have m9 : ((60, [], none) : aDe) ∈ rm_dep.getD 394 [] := List.mem_of_getElem? (i := 9) rfl
  have m10 : ((88, [2, 3, 4, 5], none) : aDe) ∈ rm_dep.getD 394 [] := List.mem_of_getElem? (i := 10) rfl
  have m11 : ((90, [], none) : aDe) ∈ rm_dep.getD 394 [] := List.mem_of_getElem? (i := 11) rfl
  obtain ⟨a0, a1, a2, a3, a4, a5, a6, hl, hb⟩ := rC_rrriiii_e hb
  rw [hl]
  have hb : ∃ C y, rTY K n σ a1 a3.toInt C y ∧ 0 ≤ a4.toInt ∧ a4.toInt ≤ C ∧ 0 ≤ a5.toInt ∧ rPthM K n σ a0 y a4.toInt a5.toInt ∧ rUa y.1 a5.toInt.toNat a4.toInt = 0 ∧ -1 ≤ a6.toInt ∧ a6.toInt < a5.toInt ∧ rRX K n σ a2 (rPo y (rUa y.1 (a6.toInt + 1).toNat a4.toInt)) := hb
  have r9 : ∃ C y, rTY K n σ' a1 a3.toInt C y ∧ 0 ≤ a4.toInt ∧ a4.toInt ≤ C ∧ 0 ≤ a5.toInt ∧ rPthM K n σ' a0 y a4.toInt a5.toInt ∧ rUa y.1 a5.toInt.toNat a4.toInt = 0 ∧ -1 ≤ a6.toInt ∧ a6.toInt < a5.toInt ∧ rRX K n σ' a2 (rPo y (rUa y.1 (a6.toInt + 1).toNat a4.toInt)) := by
    obtain ⟨C, y, hY, k1, k2, k3, ⟨g, r, k4⟩, k5, k6, k7, ⟨h1, ⟨v1, o1, e1⟩, ⟨v2, o2, e2⟩, ⟨v3, o3, e3⟩⟩⟩ := hb
    exact ⟨C, y, (rTY_st h m0 (by decide) (by decide) m1 m2 m3 m4 m5 m6 m7 hY), k1, k2, k3, ⟨g, (rRo_st h m8 (by decide) m9 r), k4⟩, k5, k6, k7, ⟨(rMg_st h m10 (by decide) m11 h1), ⟨v1, (rOb_st h m10 (by decide) o1), e1⟩, ⟨v2, (rOb_st h m10 (by decide) o2), e2⟩, ⟨v3, (rOb_st h m10 (by decide) o3), e3⟩⟩⟩
  exact r9
theorem rs_395 {N : Int} {K : Nat → Nat} {n : Nat} {vs : List jv} {j : Nat} {σ σ' : Nat → jcell} (h : ∀ a, a < n → ∀ q ∈ rm_dep.getD 395 [], q.1 = K a → aSm vs q (σ a) (σ' a)) (hb : rb_395 N K n (vs.take j) σ) : rb_395 N K n (vs.take j) σ' := by
  have m0 : ((62, [7, 8, 9, 10, 11, 16, 17], none) : aDe) ∈ rm_dep.getD 395 [] := List.mem_of_getElem? (i := 0) rfl
  have m1 : ((65, [], none) : aDe) ∈ rm_dep.getD 395 [] := List.mem_of_getElem? (i := 1) rfl
  have m2 : ((66, [], none) : aDe) ∈ rm_dep.getD 395 [] := List.mem_of_getElem? (i := 2) rfl
  have m3 : ((67, [], none) : aDe) ∈ rm_dep.getD 395 [] := List.mem_of_getElem? (i := 3) rfl
  have m4 : ((68, [], none) : aDe) ∈ rm_dep.getD 395 [] := List.mem_of_getElem? (i := 4) rfl
  have m5 : ((69, [], none) : aDe) ∈ rm_dep.getD 395 [] := List.mem_of_getElem? (i := 5) rfl
  have m6 : ((74, [], none) : aDe) ∈ rm_dep.getD 395 [] := List.mem_of_getElem? (i := 6) rfl
  have m7 : ((75, [], none) : aDe) ∈ rm_dep.getD 395 [] := List.mem_of_getElem? (i := 7) rfl
  have m8 : ((55, [17], none) : aDe) ∈ rm_dep.getD 395 [] := List.mem_of_getElem? (i := 8) rfl
  have m9 : ((60, [], none) : aDe) ∈ rm_dep.getD 395 [] := List.mem_of_getElem? (i := 9) rfl
  have m10 : ((88, [2, 3, 4, 5], none) : aDe) ∈ rm_dep.getD 395 [] := List.mem_of_getElem? (i := 10) rfl
  have m11 : ((90, [], none) : aDe) ∈ rm_dep.getD 395 [] := List.mem_of_getElem? (i := 11) rfl
  obtain ⟨a0, a1, a2, a3, a4, a5, a6, hl, hb⟩ := rC_rrriiii_e hb
  rw [hl]
  have hb : ∃ C y, rTY K n σ a1 a3.toInt C y ∧ 0 ≤ a4.toInt ∧ a4.toInt ≤ C ∧ 0 ≤ a5.toInt ∧ rPthM K n σ a0 y a4.toInt a5.toInt ∧ rUa y.1 a5.toInt.toNat a4.toInt = 0 ∧ 0 ≤ a6.toInt ∧ a6.toInt < a5.toInt ∧ rRX K n σ a2 (rPo y (rUa y.1 a6.toInt.toNat a4.toInt)) := hb
  have r9 : ∃ C y, rTY K n σ' a1 a3.toInt C y ∧ 0 ≤ a4.toInt ∧ a4.toInt ≤ C ∧ 0 ≤ a5.toInt ∧ rPthM K n σ' a0 y a4.toInt a5.toInt ∧ rUa y.1 a5.toInt.toNat a4.toInt = 0 ∧ 0 ≤ a6.toInt ∧ a6.toInt < a5.toInt ∧ rRX K n σ' a2 (rPo y (rUa y.1 a6.toInt.toNat a4.toInt)) := by
    obtain ⟨C, y, hY, k1, k2, k3, ⟨g, r, k4⟩, k5, k6, k7, ⟨h1, ⟨v1, o1, e1⟩, ⟨v2, o2, e2⟩, ⟨v3, o3, e3⟩⟩⟩ := hb
    exact ⟨C, y, (rTY_st h m0 (by decide) (by decide) m1 m2 m3 m4 m5 m6 m7 hY), k1, k2, k3, ⟨g, (rRo_st h m8 (by decide) m9 r), k4⟩, k5, k6, k7, ⟨(rMg_st h m10 (by decide) m11 h1), ⟨v1, (rOb_st h m10 (by decide) o1), e1⟩, ⟨v2, (rOb_st h m10 (by decide) o2), e2⟩, ⟨v3, (rOb_st h m10 (by decide) o3), e3⟩⟩⟩
  exact r9
theorem rs_396 {N : Int} {K : Nat → Nat} {n : Nat} {vs : List jv} {j : Nat} {σ σ' : Nat → jcell} (h : ∀ a, a < n → ∀ q ∈ rm_dep.getD 396 [], q.1 = K a → aSm vs q (σ a) (σ' a)) (hb : rb_396 N K n (vs.take j) σ) : rb_396 N K n (vs.take j) σ' := by
  have m0 : ((62, [8, 9, 16, 17], none) : aDe) ∈ rm_dep.getD 396 [] := List.mem_of_getElem? (i := 0) rfl
  have m1 : ((66, [], none) : aDe) ∈ rm_dep.getD 396 [] := List.mem_of_getElem? (i := 1) rfl
  have m2 : ((67, [], none) : aDe) ∈ rm_dep.getD 396 [] := List.mem_of_getElem? (i := 2) rfl
  have m3 : ((74, [], none) : aDe) ∈ rm_dep.getD 396 [] := List.mem_of_getElem? (i := 3) rfl
  have m4 : ((75, [], none) : aDe) ∈ rm_dep.getD 396 [] := List.mem_of_getElem? (i := 4) rfl
  have m5 : ((88, [2, 3, 4, 5], none) : aDe) ∈ rm_dep.getD 396 [] := List.mem_of_getElem? (i := 5) rfl
  have m6 : ((90, [], none) : aDe) ∈ rm_dep.getD 396 [] := List.mem_of_getElem? (i := 6) rfl
  obtain ⟨a0, a1, a2, a3, hl, hb⟩ := rC_rrii_e hb
  rw [hl]
  have hb : ∃ pa mo q0, rSt3 K n σ a1 a2.toInt pa mo q0 ∧ rRX K n σ a0 (rPo3 pa mo q0 a3.toInt) := hb
  have r9 : ∃ pa mo q0, rSt3 K n σ' a1 a2.toInt pa mo q0 ∧ rRX K n σ' a0 (rPo3 pa mo q0 a3.toInt) := by
    obtain ⟨pa, mo, q0, h3, ⟨h1, ⟨v1, o1, e1⟩, ⟨v2, o2, e2⟩, ⟨v3, o3, e3⟩⟩⟩ := hb
    exact ⟨pa, mo, q0, (rSt3_st h m0 (by decide) m1 m2 m3 m4 h3), ⟨(rMg_st h m5 (by decide) m6 h1), ⟨v1, (rOb_st h m5 (by decide) o1), e1⟩, ⟨v2, (rOb_st h m5 (by decide) o2), e2⟩, ⟨v3, (rOb_st h m5 (by decide) o3), e3⟩⟩⟩
  exact r9
theorem rs_397 {N : Int} {K : Nat → Nat} {n : Nat} {vs : List jv} {j : Nat} {σ σ' : Nat → jcell} (h : ∀ a, a < n → ∀ q ∈ rm_dep.getD 397 [], q.1 = K a → aSm vs q (σ a) (σ' a)) (hb : rb_397 N K n (vs.take j) σ) : rb_397 N K n (vs.take j) σ' := by
  have m0 : ((88, [9, 10, 11, 12], none) : aDe) ∈ rm_dep.getD 397 [] := List.mem_of_getElem? (i := 0) rfl
  have m1 : ((91, [], some ([(1, 64), (2, -64)], 0)) : aDe) ∈ rm_dep.getD 397 [] := List.mem_of_getElem? (i := 1) rfl
  have m2 : ((92, [], some ([(1, 1), (2, -1)], 0)) : aDe) ∈ rm_dep.getD 397 [] := List.mem_of_getElem? (i := 2) rfl
  have m3 : ((93, [], some ([(1, 1), (2, -1)], 0)) : aDe) ∈ rm_dep.getD 397 [] := List.mem_of_getElem? (i := 3) rfl
  have m4 : ((94, [], some ([(1, 1), (2, -1)], 0)) : aDe) ∈ rm_dep.getD 397 [] := List.mem_of_getElem? (i := 4) rfl
  obtain ⟨a0, a1, a2, hl, hb⟩ := rC_rii_e hb
  rw [hl]
  have hb : rPG0 K n σ a0 (a1.toInt - a2.toInt) := hb
  have r9 : rPG0 K n σ' a0 (a1.toInt - a2.toInt) := by
    obtain ⟨gM, gS, gP, r1, r2, r3, kk⟩ := hb
    obtain ⟨n1g, n1, n1e⟩ := rRo_sb h m0 (by decide) m1 (b := (64 * a1.toInt + -64 * a2.toInt + 0)) (fun x hx => rVa2 (x := a1) (x' := a2) hx (rTak (j := j) (by rw [hl]; rfl)) (rTak (j := j) (by rw [hl]; rfl))) r1
    obtain ⟨n2g, n2, n2e⟩ := rRo_sb h m0 (by decide) m2 (b := (1 * a1.toInt + -1 * a2.toInt + 0)) (fun x hx => rVa2 (x := a1) (x' := a2) hx (rTak (j := j) (by rw [hl]; rfl)) (rTak (j := j) (by rw [hl]; rfl))) r2
    obtain ⟨n3g, n3, n3e⟩ := rRo_sb h m0 (by decide) m4 (b := (1 * a1.toInt + -1 * a2.toInt + 0)) (fun x hx => rVa2 (x := a1) (x' := a2) hx (rTak (j := j) (by rw [hl]; rfl)) (rTak (j := j) (by rw [hl]; rfl))) r3
    refine ⟨n1g, n2g, n3g, n1, n2, n3, fun t t1 t2 => rPs_m (q := rPaq gM gS gP t) (fun j j0 j1 => ?_) ?_ ?_ (kk t t1 t2)⟩
    · show (if 0 ≤ j ∧ j ≤ 63 then (gM (64 * t + j).toNat).toInt else 0) = (if 0 ≤ j ∧ j ≤ 63 then (n1g (64 * t + j).toNat).toInt else 0)
      rw [n1e _ (by omega)]
    · show (gS t.toNat).toInt = (n2g t.toNat).toInt
      rw [n2e _ (by omega)]
    · show (gP t.toNat).toInt = (n3g t.toNat).toInt
      rw [n3e _ (by omega)]
  exact r9
theorem rs_398 {N : Int} {K : Nat → Nat} {n : Nat} {vs : List jv} {j : Nat} {σ σ' : Nat → jcell} (h : ∀ a, a < n → ∀ q ∈ rm_dep.getD 398 [], q.1 = K a → aSm vs q (σ a) (σ' a)) (hb : rb_398 N K n (vs.take j) σ) : rb_398 N K n (vs.take j) σ' := by
  have m0 : ((62, [24], none) : aDe) ∈ rm_dep.getD 398 [] := List.mem_of_getElem? (i := 0) rfl
  have m1 : ((82, [], none) : aDe) ∈ rm_dep.getD 398 [] := List.mem_of_getElem? (i := 1) rfl
  obtain ⟨a0, a1, hl, hb⟩ := rC_ri_e hb
  rw [hl]
  have hb : 0 ≤ a1.toInt ∧ a1.toInt ≤ 63 ∧ ∃ g, rRo K n σ a0 62 24 82 64 g ∧ ((1 ≤ (g a1.toInt.toNat).toInt ∧ (g a1.toInt.toNat).toInt ≤ 5) ∨ (9 ≤ (g a1.toInt.toNat).toInt ∧ (g a1.toInt.toNat).toInt ≤ 13)) := hb
  have r9 : 0 ≤ a1.toInt ∧ a1.toInt ≤ 63 ∧ ∃ g, rRo K n σ' a0 62 24 82 64 g ∧ ((1 ≤ (g a1.toInt.toNat).toInt ∧ (g a1.toInt.toNat).toInt ≤ 5) ∨ (9 ≤ (g a1.toInt.toNat).toInt ∧ (g a1.toInt.toNat).toInt ≤ 13)) := by
    obtain ⟨k0, k1, g, r, kk⟩ := hb
    exact ⟨k0, k1, g, (rRo_st h m0 (by decide) m1 r), kk⟩
  exact r9
theorem rs_399 {N : Int} {K : Nat → Nat} {n : Nat} {vs : List jv} {j : Nat} {σ σ' : Nat → jcell} (h : ∀ a, a < n → ∀ q ∈ rm_dep.getD 399 [], q.1 = K a → aSm vs q (σ a) (σ' a)) (hb : rb_399 N K n (vs.take j) σ) : rb_399 N K n (vs.take j) σ' := by
  have m0 : ((109, [5], none) : aDe) ∈ rm_dep.getD 399 [] := List.mem_of_getElem? (i := 0) rfl
  have m1 : ((112, [], none) : aDe) ∈ rm_dep.getD 399 [] := List.mem_of_getElem? (i := 1) rfl
  have m2 : ((55, [7], none) : aDe) ∈ rm_dep.getD 399 [] := List.mem_of_getElem? (i := 2) rfl
  obtain ⟨a0, hl, hb⟩ := rC_r_e hb
  rw [hl]
  have hb : (rOb K n σ a0 55 7 (.inr (.inr none)) ∧ ∀ q, q < n → ¬ K q = 109) ∨ ∃ m, rOb K n σ a0 55 7 (rR m) ∧ ∃ g, rRo K n σ m 109 5 112 6 g ∧ ∀ j : Nat, 2 ≤ j → j ≤ 5 → (g j).toInt ≤ 100000000 := hb
  have r9 : (rOb K n σ' a0 55 7 (.inr (.inr none)) ∧ ∀ q, q < n → ¬ K q = 109) ∨ ∃ m, rOb K n σ' a0 55 7 (rR m) ∧ ∃ g, rRo K n σ' m 109 5 112 6 g ∧ ∀ j : Nat, 2 ≤ j → j ≤ 5 → (g j).toInt ≤ 100000000 := by
    rcases hb with ⟨o1, oz⟩ | ⟨m, o1, g, r, kk⟩
    · exact Or.inl ⟨(rOb_st h m2 (by decide) o1), oz⟩
    · exact Or.inr ⟨m, (rOb_st h m2 (by decide) o1), g, (rRo_st h m0 (by decide) m1 r), kk⟩
  exact r9
theorem rs_450 {N : Int} {K : Nat → Nat} {n : Nat} {p : rP} {vs : List jv} {j : Nat} {σ σ' : Nat → jcell} (h : ∀ a, a < n → ∀ q ∈ rm_dep.getD 450 [], q.1 = K a → aSm vs q (σ a) (σ' a)) (hb : rb_450 N K n p (vs.take j) σ) : rb_450 N K n p (vs.take j) σ' := by
  have m0 : ((62, [7, 8, 9, 10, 11, 16, 17], none) : aDe) ∈ rm_dep.getD 450 [] := List.mem_of_getElem? (i := 0) rfl
  have m1 : ((65, [], none) : aDe) ∈ rm_dep.getD 450 [] := List.mem_of_getElem? (i := 1) rfl
  have m2 : ((66, [], none) : aDe) ∈ rm_dep.getD 450 [] := List.mem_of_getElem? (i := 2) rfl
  have m3 : ((67, [], none) : aDe) ∈ rm_dep.getD 450 [] := List.mem_of_getElem? (i := 3) rfl
  have m4 : ((68, [], none) : aDe) ∈ rm_dep.getD 450 [] := List.mem_of_getElem? (i := 4) rfl
  have m5 : ((69, [], none) : aDe) ∈ rm_dep.getD 450 [] := List.mem_of_getElem? (i := 5) rfl
  have m6 : ((74, [], none) : aDe) ∈ rm_dep.getD 450 [] := List.mem_of_getElem? (i := 6) rfl
  have m7 : ((75, [], none) : aDe) ∈ rm_dep.getD 450 [] := List.mem_of_getElem? (i := 7) rfl
  obtain ⟨a0, a1, hl, hb⟩ := rC_ri_e hb
  rw [hl]
  obtain ⟨C, y, h1, h2⟩ := hb
  exact ⟨C, y, (rTY_st h m0 (by decide) (by decide) m1 m2 m3 m4 m5 m6 m7 h1), h2⟩
theorem rs_451 {N : Int} {K : Nat → Nat} {n : Nat} {p : rP} {vs : List jv} {j : Nat} {σ σ' : Nat → jcell} (h : ∀ a, a < n → ∀ q ∈ rm_dep.getD 451 [], q.1 = K a → aSm vs q (σ a) (σ' a)) (hb : rb_451 N K n p (vs.take j) σ) : rb_451 N K n p (vs.take j) σ' := by
  exact hb
theorem rs_452 {N : Int} {K : Nat → Nat} {n : Nat} {p : rP} {vs : List jv} {j : Nat} {σ σ' : Nat → jcell} (h : ∀ a, a < n → ∀ q ∈ rm_dep.getD 452 [], q.1 = K a → aSm vs q (σ a) (σ' a)) (hb : rb_452 N K n p (vs.take j) σ) : rb_452 N K n p (vs.take j) σ' := by
  exact hb
theorem rs_453 {N : Int} {K : Nat → Nat} {n : Nat} {p : rP} {vs : List jv} {j : Nat} {σ σ' : Nat → jcell} (h : ∀ a, a < n → ∀ q ∈ rm_dep.getD 453 [], q.1 = K a → aSm vs q (σ a) (σ' a)) (hb : rb_453 N K n p (vs.take j) σ) : rb_453 N K n p (vs.take j) σ' := by
  have m0 : ((62, [7, 8, 9, 10, 11, 16, 17], none) : aDe) ∈ rm_dep.getD 453 [] := List.mem_of_getElem? (i := 0) rfl
  have m1 : ((65, [], none) : aDe) ∈ rm_dep.getD 453 [] := List.mem_of_getElem? (i := 1) rfl
  have m2 : ((66, [], none) : aDe) ∈ rm_dep.getD 453 [] := List.mem_of_getElem? (i := 2) rfl
  have m3 : ((67, [], none) : aDe) ∈ rm_dep.getD 453 [] := List.mem_of_getElem? (i := 3) rfl
  have m4 : ((68, [], none) : aDe) ∈ rm_dep.getD 453 [] := List.mem_of_getElem? (i := 4) rfl
  have m5 : ((69, [], none) : aDe) ∈ rm_dep.getD 453 [] := List.mem_of_getElem? (i := 5) rfl
  have m6 : ((74, [], none) : aDe) ∈ rm_dep.getD 453 [] := List.mem_of_getElem? (i := 6) rfl
  have m7 : ((75, [], none) : aDe) ∈ rm_dep.getD 453 [] := List.mem_of_getElem? (i := 7) rfl
  obtain ⟨a0, a1, hl, hb⟩ := rC_ri_e hb
  rw [hl]
  obtain ⟨C, y, h1, h2⟩ := hb
  exact ⟨C, y, (rTY_st h m0 (by decide) (by decide) m1 m2 m3 m4 m5 m6 m7 h1), h2⟩
theorem rs_454 {N : Int} {K : Nat → Nat} {n : Nat} {p : rP} {vs : List jv} {j : Nat} {σ σ' : Nat → jcell} (h : ∀ a, a < n → ∀ q ∈ rm_dep.getD 454 [], q.1 = K a → aSm vs q (σ a) (σ' a)) (hb : rb_454 N K n p (vs.take j) σ) : rb_454 N K n p (vs.take j) σ' := by
  exact hb
theorem rs_455 {N : Int} {K : Nat → Nat} {n : Nat} {p : rP} {vs : List jv} {j : Nat} {σ σ' : Nat → jcell} (h : ∀ a, a < n → ∀ q ∈ rm_dep.getD 455 [], q.1 = K a → aSm vs q (σ a) (σ' a)) (hb : rb_455 N K n p (vs.take j) σ) : rb_455 N K n p (vs.take j) σ' := by
  exact hb
theorem rs_456 {N : Int} {K : Nat → Nat} {n : Nat} {p : rP} {vs : List jv} {j : Nat} {σ σ' : Nat → jcell} (h : ∀ a, a < n → ∀ q ∈ rm_dep.getD 456 [], q.1 = K a → aSm vs q (σ a) (σ' a)) (hb : rb_456 N K n p (vs.take j) σ) : rb_456 N K n p (vs.take j) σ' := by
  have m0 : ((62, [7, 8, 9, 10, 11, 16, 17], none) : aDe) ∈ rm_dep.getD 456 [] := List.mem_of_getElem? (i := 0) rfl
  have m1 : ((65, [], none) : aDe) ∈ rm_dep.getD 456 [] := List.mem_of_getElem? (i := 1) rfl
  have m2 : ((66, [], none) : aDe) ∈ rm_dep.getD 456 [] := List.mem_of_getElem? (i := 2) rfl
  have m3 : ((67, [], none) : aDe) ∈ rm_dep.getD 456 [] := List.mem_of_getElem? (i := 3) rfl
  have m4 : ((68, [], none) : aDe) ∈ rm_dep.getD 456 [] := List.mem_of_getElem? (i := 4) rfl
  have m5 : ((69, [], none) : aDe) ∈ rm_dep.getD 456 [] := List.mem_of_getElem? (i := 5) rfl
  have m6 : ((74, [], none) : aDe) ∈ rm_dep.getD 456 [] := List.mem_of_getElem? (i := 6) rfl
  have m7 : ((75, [], none) : aDe) ∈ rm_dep.getD 456 [] := List.mem_of_getElem? (i := 7) rfl
  obtain ⟨a0, a1, a2, a3, hl, hb⟩ := rC_riii_e hb
  rw [hl]
  obtain ⟨C, y, h1, h2⟩ := hb
  exact ⟨C, y, (rTY_st h m0 (by decide) (by decide) m1 m2 m3 m4 m5 m6 m7 h1), h2⟩
theorem rs_457 {N : Int} {K : Nat → Nat} {n : Nat} {p : rP} {vs : List jv} {j : Nat} {σ σ' : Nat → jcell} (h : ∀ a, a < n → ∀ q ∈ rm_dep.getD 457 [], q.1 = K a → aSm vs q (σ a) (σ' a)) (hb : rb_457 N K n p (vs.take j) σ) : rb_457 N K n p (vs.take j) σ' := by
  exact hb
theorem rs_458 {N : Int} {K : Nat → Nat} {n : Nat} {p : rP} {vs : List jv} {j : Nat} {σ σ' : Nat → jcell} (h : ∀ a, a < n → ∀ q ∈ rm_dep.getD 458 [], q.1 = K a → aSm vs q (σ a) (σ' a)) (hb : rb_458 N K n p (vs.take j) σ) : rb_458 N K n p (vs.take j) σ' := by
  have m0 : ((62, [7, 8, 9, 10, 11, 16, 17], none) : aDe) ∈ rm_dep.getD 458 [] := List.mem_of_getElem? (i := 0) rfl
  have m1 : ((65, [], none) : aDe) ∈ rm_dep.getD 458 [] := List.mem_of_getElem? (i := 1) rfl
  have m2 : ((66, [], none) : aDe) ∈ rm_dep.getD 458 [] := List.mem_of_getElem? (i := 2) rfl
  have m3 : ((67, [], none) : aDe) ∈ rm_dep.getD 458 [] := List.mem_of_getElem? (i := 3) rfl
  have m4 : ((68, [], none) : aDe) ∈ rm_dep.getD 458 [] := List.mem_of_getElem? (i := 4) rfl
  have m5 : ((69, [], none) : aDe) ∈ rm_dep.getD 458 [] := List.mem_of_getElem? (i := 5) rfl
  have m6 : ((74, [], none) : aDe) ∈ rm_dep.getD 458 [] := List.mem_of_getElem? (i := 6) rfl
  have m7 : ((75, [], none) : aDe) ∈ rm_dep.getD 458 [] := List.mem_of_getElem? (i := 7) rfl
  obtain ⟨a0, a1, a2, a3, a4, hl, hb⟩ := rC_riiii_e hb
  rw [hl]
  obtain ⟨C, y, h1, h2⟩ := hb
  exact ⟨C, y, (rTY_st h m0 (by decide) (by decide) m1 m2 m3 m4 m5 m6 m7 h1), h2⟩
theorem rs_459 {N : Int} {K : Nat → Nat} {n : Nat} {p : rP} {vs : List jv} {j : Nat} {σ σ' : Nat → jcell} (h : ∀ a, a < n → ∀ q ∈ rm_dep.getD 459 [], q.1 = K a → aSm vs q (σ a) (σ' a)) (hb : rb_459 N K n p (vs.take j) σ) : rb_459 N K n p (vs.take j) σ' := by
  have m0 : ((62, [7, 8, 9, 10, 11, 16, 17], none) : aDe) ∈ rm_dep.getD 459 [] := List.mem_of_getElem? (i := 0) rfl
  have m1 : ((65, [], none) : aDe) ∈ rm_dep.getD 459 [] := List.mem_of_getElem? (i := 1) rfl
  have m2 : ((66, [], none) : aDe) ∈ rm_dep.getD 459 [] := List.mem_of_getElem? (i := 2) rfl
  have m3 : ((67, [], none) : aDe) ∈ rm_dep.getD 459 [] := List.mem_of_getElem? (i := 3) rfl
  have m4 : ((68, [], none) : aDe) ∈ rm_dep.getD 459 [] := List.mem_of_getElem? (i := 4) rfl
  have m5 : ((69, [], none) : aDe) ∈ rm_dep.getD 459 [] := List.mem_of_getElem? (i := 5) rfl
  have m6 : ((74, [], none) : aDe) ∈ rm_dep.getD 459 [] := List.mem_of_getElem? (i := 6) rfl
  have m7 : ((75, [], none) : aDe) ∈ rm_dep.getD 459 [] := List.mem_of_getElem? (i := 7) rfl
  obtain ⟨a0, a1, a2, a3, a4, hl, hb⟩ := rC_riiii_e hb
  rw [hl]
  obtain ⟨C, y, h1, h2⟩ := hb
  exact ⟨C, y, (rTY_st h m0 (by decide) (by decide) m1 m2 m3 m4 m5 m6 m7 h1), h2⟩
theorem rs_460 {N : Int} {K : Nat → Nat} {n : Nat} {p : rP} {vs : List jv} {j : Nat} {σ σ' : Nat → jcell} (h : ∀ a, a < n → ∀ q ∈ rm_dep.getD 460 [], q.1 = K a → aSm vs q (σ a) (σ' a)) (hb : rb_460 N K n p (vs.take j) σ) : rb_460 N K n p (vs.take j) σ' := by
  have m0 : ((62, [7, 8, 9, 10, 11, 16, 17], none) : aDe) ∈ rm_dep.getD 460 [] := List.mem_of_getElem? (i := 0) rfl
  have m1 : ((65, [], none) : aDe) ∈ rm_dep.getD 460 [] := List.mem_of_getElem? (i := 1) rfl
  have m2 : ((66, [], none) : aDe) ∈ rm_dep.getD 460 [] := List.mem_of_getElem? (i := 2) rfl
  have m3 : ((67, [], none) : aDe) ∈ rm_dep.getD 460 [] := List.mem_of_getElem? (i := 3) rfl
  have m4 : ((68, [], none) : aDe) ∈ rm_dep.getD 460 [] := List.mem_of_getElem? (i := 4) rfl
  have m5 : ((69, [], none) : aDe) ∈ rm_dep.getD 460 [] := List.mem_of_getElem? (i := 5) rfl
  have m6 : ((74, [], none) : aDe) ∈ rm_dep.getD 460 [] := List.mem_of_getElem? (i := 6) rfl
  have m7 : ((75, [], none) : aDe) ∈ rm_dep.getD 460 [] := List.mem_of_getElem? (i := 7) rfl
  obtain ⟨a0, a1, a2, a3, a4, hl, hb⟩ := rC_riiii_e hb
  rw [hl]
  obtain ⟨C, y, h1, h2⟩ := hb
  exact ⟨C, y, (rTY_st h m0 (by decide) (by decide) m1 m2 m3 m4 m5 m6 m7 h1), h2⟩
theorem rs_461 {N : Int} {K : Nat → Nat} {n : Nat} {p : rP} {vs : List jv} {j : Nat} {σ σ' : Nat → jcell} (h : ∀ a, a < n → ∀ q ∈ rm_dep.getD 461 [], q.1 = K a → aSm vs q (σ a) (σ' a)) (hb : rb_461 N K n p (vs.take j) σ) : rb_461 N K n p (vs.take j) σ' := by
  have m0 : ((62, [7, 8, 9, 10, 11, 16, 17], none) : aDe) ∈ rm_dep.getD 461 [] := List.mem_of_getElem? (i := 0) rfl
  have m1 : ((65, [], none) : aDe) ∈ rm_dep.getD 461 [] := List.mem_of_getElem? (i := 1) rfl
  have m2 : ((66, [], none) : aDe) ∈ rm_dep.getD 461 [] := List.mem_of_getElem? (i := 2) rfl
  have m3 : ((67, [], none) : aDe) ∈ rm_dep.getD 461 [] := List.mem_of_getElem? (i := 3) rfl
  have m4 : ((68, [], none) : aDe) ∈ rm_dep.getD 461 [] := List.mem_of_getElem? (i := 4) rfl
  have m5 : ((69, [], none) : aDe) ∈ rm_dep.getD 461 [] := List.mem_of_getElem? (i := 5) rfl
  have m6 : ((74, [], none) : aDe) ∈ rm_dep.getD 461 [] := List.mem_of_getElem? (i := 6) rfl
  have m7 : ((75, [], none) : aDe) ∈ rm_dep.getD 461 [] := List.mem_of_getElem? (i := 7) rfl
  obtain ⟨a0, a1, a2, a3, hl, hb⟩ := rC_riii_e hb
  rw [hl]
  obtain ⟨C, y, h1, h2⟩ := hb
  exact ⟨C, y, (rTY_st h m0 (by decide) (by decide) m1 m2 m3 m4 m5 m6 m7 h1), h2⟩
theorem rs_462 {N : Int} {K : Nat → Nat} {n : Nat} {p : rP} {vs : List jv} {j : Nat} {σ σ' : Nat → jcell} (h : ∀ a, a < n → ∀ q ∈ rm_dep.getD 462 [], q.1 = K a → aSm vs q (σ a) (σ' a)) (hb : rb_462 N K n p (vs.take j) σ) : rb_462 N K n p (vs.take j) σ' := by
  have m0 : ((62, [8, 9, 16, 17], none) : aDe) ∈ rm_dep.getD 462 [] := List.mem_of_getElem? (i := 0) rfl
  have m1 : ((66, [], none) : aDe) ∈ rm_dep.getD 462 [] := List.mem_of_getElem? (i := 1) rfl
  have m2 : ((67, [], none) : aDe) ∈ rm_dep.getD 462 [] := List.mem_of_getElem? (i := 2) rfl
  have m3 : ((74, [], none) : aDe) ∈ rm_dep.getD 462 [] := List.mem_of_getElem? (i := 3) rfl
  have m4 : ((75, [], none) : aDe) ∈ rm_dep.getD 462 [] := List.mem_of_getElem? (i := 4) rfl
  obtain ⟨a0, a1, a2, hl, hb⟩ := rC_rii_e hb
  rw [hl]
  have hb : p.2 = none ∧ ∃ pa mo q0, rSt3 K n σ a0 a1.toInt pa mo q0 ∧ p.1 = rPo3 pa mo q0 a2.toInt := hb
  have r9 : p.2 = none ∧ ∃ pa mo q0, rSt3 K n σ' a0 a1.toInt pa mo q0 ∧ p.1 = rPo3 pa mo q0 a2.toInt := by
    obtain ⟨hp, pa, mo, q0, h3, e⟩ := hb
    exact ⟨hp, pa, mo, q0, (rSt3_st h m0 (by decide) m1 m2 m3 m4 h3), e⟩
  exact r9
theorem rs_463 {N : Int} {K : Nat → Nat} {n : Nat} {p : rP} {vs : List jv} {j : Nat} {σ σ' : Nat → jcell} (h : ∀ a, a < n → ∀ q ∈ rm_dep.getD 463 [], q.1 = K a → aSm vs q (σ a) (σ' a)) (hb : rb_463 N K n p (vs.take j) σ) : rb_463 N K n p (vs.take j) σ' := by
  have m0 : ((62, [32, 33], none) : aDe) ∈ rm_dep.getD 463 [] := List.mem_of_getElem? (i := 0) rfl
  have m1 : ((85, [], none) : aDe) ∈ rm_dep.getD 463 [] := List.mem_of_getElem? (i := 1) rfl
  obtain ⟨a0, hl, hb⟩ := rC_r_e hb
  rw [hl]
  have hb : ∃ c : Int32, rOb K n σ a0 62 33 (rI c) ∧ c.toInt ≤ 2048 ∧ rTL K n σ a0 c.toInt p.1 := hb
  have r9 : ∃ c : Int32, rOb K n σ' a0 62 33 (rI c) ∧ c.toInt ≤ 2048 ∧ rTL K n σ' a0 c.toInt p.1 := by
    obtain ⟨c, o1, k1, g, r, kk⟩ := hb
    exact ⟨c, (rOb_st h m0 (by decide) o1), k1, g, (rRo_st h m0 (by decide) m1 r), kk⟩
  exact r9
theorem rs_464 {N : Int} {K : Nat → Nat} {n : Nat} {p : rP} {vs : List jv} {j : Nat} {σ σ' : Nat → jcell} (h : ∀ a, a < n → ∀ q ∈ rm_dep.getD 464 [], q.1 = K a → aSm vs q (σ a) (σ' a)) (hb : rb_464 N K n p (vs.take j) σ) : rb_464 N K n p (vs.take j) σ' := by
  have m0 : ((62, [7, 8, 9, 10, 11, 16, 17], none) : aDe) ∈ rm_dep.getD 464 [] := List.mem_of_getElem? (i := 0) rfl
  have m1 : ((65, [], none) : aDe) ∈ rm_dep.getD 464 [] := List.mem_of_getElem? (i := 1) rfl
  have m2 : ((66, [], none) : aDe) ∈ rm_dep.getD 464 [] := List.mem_of_getElem? (i := 2) rfl
  have m3 : ((67, [], none) : aDe) ∈ rm_dep.getD 464 [] := List.mem_of_getElem? (i := 3) rfl
  have m4 : ((68, [], none) : aDe) ∈ rm_dep.getD 464 [] := List.mem_of_getElem? (i := 4) rfl
  have m5 : ((69, [], none) : aDe) ∈ rm_dep.getD 464 [] := List.mem_of_getElem? (i := 5) rfl
  have m6 : ((74, [], none) : aDe) ∈ rm_dep.getD 464 [] := List.mem_of_getElem? (i := 6) rfl
  have m7 : ((75, [], none) : aDe) ∈ rm_dep.getD 464 [] := List.mem_of_getElem? (i := 7) rfl
  have m8 : ((55, [17], none) : aDe) ∈ rm_dep.getD 464 [] := List.mem_of_getElem? (i := 8) rfl
  have m9 : ((60, [], none) : aDe) ∈ rm_dep.getD 464 [] := List.mem_of_getElem? (i := 9) rfl
  obtain ⟨a0, a1, a2, a3, a4, a5, hl, hb⟩ := rC_rriiii_e hb
  rw [hl]
  have hb : p.2 = none ∧ ∃ C y, rTY K n σ a1 a2.toInt C y ∧ 0 ≤ a3.toInt ∧ a3.toInt ≤ C ∧ 0 ≤ a4.toInt ∧ rPthM K n σ a0 y a3.toInt a4.toInt ∧ rUa y.1 a4.toInt.toNat a3.toInt = 0 ∧ 0 ≤ a5.toInt ∧ a5.toInt < a4.toInt ∧ p.1 = rPo y (rUa y.1 (a5.toInt + 1).toNat a3.toInt) := hb
  have r9 : p.2 = none ∧ ∃ C y, rTY K n σ' a1 a2.toInt C y ∧ 0 ≤ a3.toInt ∧ a3.toInt ≤ C ∧ 0 ≤ a4.toInt ∧ rPthM K n σ' a0 y a3.toInt a4.toInt ∧ rUa y.1 a4.toInt.toNat a3.toInt = 0 ∧ 0 ≤ a5.toInt ∧ a5.toInt < a4.toInt ∧ p.1 = rPo y (rUa y.1 (a5.toInt + 1).toNat a3.toInt) := by
    obtain ⟨hp, C, y, hY, k1, k2, k3, ⟨g, r, k4⟩, k5⟩ := hb
    exact ⟨hp, C, y, (rTY_st h m0 (by decide) (by decide) m1 m2 m3 m4 m5 m6 m7 hY), k1, k2, k3, ⟨g, (rRo_st h m8 (by decide) m9 r), k4⟩, k5⟩
  exact r9
theorem rs_465 {N : Int} {K : Nat → Nat} {n : Nat} {p : rP} {vs : List jv} {j : Nat} {σ σ' : Nat → jcell} (h : ∀ a, a < n → ∀ q ∈ rm_dep.getD 465 [], q.1 = K a → aSm vs q (σ a) (σ' a)) (hb : rb_465 N K n p (vs.take j) σ) : rb_465 N K n p (vs.take j) σ' := by
  have m0 : ((62, [7, 8, 9, 10, 11, 16, 17], none) : aDe) ∈ rm_dep.getD 465 [] := List.mem_of_getElem? (i := 0) rfl
  have m1 : ((65, [], none) : aDe) ∈ rm_dep.getD 465 [] := List.mem_of_getElem? (i := 1) rfl
  have m2 : ((66, [], none) : aDe) ∈ rm_dep.getD 465 [] := List.mem_of_getElem? (i := 2) rfl
  have m3 : ((67, [], none) : aDe) ∈ rm_dep.getD 465 [] := List.mem_of_getElem? (i := 3) rfl
  have m4 : ((68, [], none) : aDe) ∈ rm_dep.getD 465 [] := List.mem_of_getElem? (i := 4) rfl
  have m5 : ((69, [], none) : aDe) ∈ rm_dep.getD 465 [] := List.mem_of_getElem? (i := 5) rfl
  have m6 : ((74, [], none) : aDe) ∈ rm_dep.getD 465 [] := List.mem_of_getElem? (i := 6) rfl
  have m7 : ((75, [], none) : aDe) ∈ rm_dep.getD 465 [] := List.mem_of_getElem? (i := 7) rfl
  have m8 : ((55, [17], none) : aDe) ∈ rm_dep.getD 465 [] := List.mem_of_getElem? (i := 8) rfl
  have m9 : ((60, [], none) : aDe) ∈ rm_dep.getD 465 [] := List.mem_of_getElem? (i := 9) rfl
  obtain ⟨a0, a1, a2, a3, a4, hl, hb⟩ := rC_rriii_e hb
  rw [hl]
  have hb : p.2 = none ∧ ∃ C y, rTY K n σ a1 a2.toInt C y ∧ 0 ≤ a3.toInt ∧ a3.toInt ≤ C ∧ 0 ≤ a4.toInt ∧ rPthM K n σ a0 y a3.toInt a4.toInt ∧ rUa y.1 a4.toInt.toNat a3.toInt = 0 ∧ p.1 = rPo y 0 := hb
  have r9 : p.2 = none ∧ ∃ C y, rTY K n σ' a1 a2.toInt C y ∧ 0 ≤ a3.toInt ∧ a3.toInt ≤ C ∧ 0 ≤ a4.toInt ∧ rPthM K n σ' a0 y a3.toInt a4.toInt ∧ rUa y.1 a4.toInt.toNat a3.toInt = 0 ∧ p.1 = rPo y 0 := by
    obtain ⟨hp, C, y, hY, k1, k2, k3, ⟨g, r, k4⟩, k5⟩ := hb
    exact ⟨hp, C, y, (rTY_st h m0 (by decide) (by decide) m1 m2 m3 m4 m5 m6 m7 hY), k1, k2, k3, ⟨g, (rRo_st h m8 (by decide) m9 r), k4⟩, k5⟩
  exact r9
theorem rs_466 {N : Int} {K : Nat → Nat} {n : Nat} {p : rP} {vs : List jv} {j : Nat} {σ σ' : Nat → jcell} (h : ∀ a, a < n → ∀ q ∈ rm_dep.getD 466 [], q.1 = K a → aSm vs q (σ a) (σ' a)) (hb : rb_466 N K n p (vs.take j) σ) : rb_466 N K n p (vs.take j) σ' := by
  have m0 : ((62, [7, 8, 9, 10, 11, 16, 17], none) : aDe) ∈ rm_dep.getD 466 [] := List.mem_of_getElem? (i := 0) rfl
  have m1 : ((65, [], none) : aDe) ∈ rm_dep.getD 466 [] := List.mem_of_getElem? (i := 1) rfl
  have m2 : ((66, [], none) : aDe) ∈ rm_dep.getD 466 [] := List.mem_of_getElem? (i := 2) rfl
  have m3 : ((67, [], none) : aDe) ∈ rm_dep.getD 466 [] := List.mem_of_getElem? (i := 3) rfl
  have m4 : ((68, [], none) : aDe) ∈ rm_dep.getD 466 [] := List.mem_of_getElem? (i := 4) rfl
  have m5 : ((69, [], none) : aDe) ∈ rm_dep.getD 466 [] := List.mem_of_getElem? (i := 5) rfl
  have m6 : ((74, [], none) : aDe) ∈ rm_dep.getD 466 [] := List.mem_of_getElem? (i := 6) rfl
  have m7 : ((75, [], none) : aDe) ∈ rm_dep.getD 466 [] := List.mem_of_getElem? (i := 7) rfl
  have m8 : ((55, [17], none) : aDe) ∈ rm_dep.getD 466 [] := List.mem_of_getElem? (i := 8) rfl
  have m9 : ((60, [], none) : aDe) ∈ rm_dep.getD 466 [] := List.mem_of_getElem? (i := 9) rfl
  obtain ⟨a0, a1, a2, a3, a4, a5, hl, hb⟩ := rC_rriiii_e hb
  rw [hl]
  have hb : p.2 = none ∧ ∃ C y, rTY K n σ a1 a2.toInt C y ∧ 0 ≤ a3.toInt ∧ a3.toInt ≤ C ∧ 0 ≤ a4.toInt ∧ rPthM K n σ a0 y a3.toInt a4.toInt ∧ rUa y.1 a4.toInt.toNat a3.toInt = 0 ∧ 0 ≤ a5.toInt ∧ a5.toInt < a4.toInt ∧ p.1 = rPo y (rUa y.1 a5.toInt.toNat a3.toInt) := hb
  have r9 : p.2 = none ∧ ∃ C y, rTY K n σ' a1 a2.toInt C y ∧ 0 ≤ a3.toInt ∧ a3.toInt ≤ C ∧ 0 ≤ a4.toInt ∧ rPthM K n σ' a0 y a3.toInt a4.toInt ∧ rUa y.1 a4.toInt.toNat a3.toInt = 0 ∧ 0 ≤ a5.toInt ∧ a5.toInt < a4.toInt ∧ p.1 = rPo y (rUa y.1 a5.toInt.toNat a3.toInt) := by
    obtain ⟨hp, C, y, hY, k1, k2, k3, ⟨g, r, k4⟩, k5⟩ := hb
    exact ⟨hp, C, y, (rTY_st h m0 (by decide) (by decide) m1 m2 m3 m4 m5 m6 m7 hY), k1, k2, k3, ⟨g, (rRo_st h m8 (by decide) m9 r), k4⟩, k5⟩
  exact r9
theorem rs_468 {N : Int} {K : Nat → Nat} {n : Nat} {p : rP} {vs : List jv} {j : Nat} {σ σ' : Nat → jcell} (h : ∀ a, a < n → ∀ q ∈ rm_dep.getD 468 [], q.1 = K a → aSm vs q (σ a) (σ' a)) (hb : rb_468 N K n p (vs.take j) σ) : rb_468 N K n p (vs.take j) σ' := by
  have m0 : ((88, [33], none) : aDe) ∈ rm_dep.getD 468 [] := List.mem_of_getElem? (i := 0) rfl
  have m1 : ((107, [], none) : aDe) ∈ rm_dep.getD 468 [] := List.mem_of_getElem? (i := 1) rfl
  obtain ⟨a0, a1, a2, hl, hb⟩ := rC_rii_e hb
  rw [hl]
  have hb : a2.toInt = 1 → ∃ g, rRo K n σ a0 88 33 107 4 g ∧ rLn a0 p g 0 (2 * a1.toInt).toNat := hb
  have r9 : a2.toInt = 1 → ∃ g, rRo K n σ' a0 88 33 107 4 g ∧ rLn a0 p g 0 (2 * a1.toInt).toNat := by
    intro h9
    obtain ⟨g, r, kk⟩ := hb h9
    exact ⟨g, (rRo_st h m0 (by decide) m1 r), kk⟩
  exact r9
theorem rs_469 {N : Int} {K : Nat → Nat} {n : Nat} {p : rP} {vs : List jv} {j : Nat} {σ σ' : Nat → jcell} (h : ∀ a, a < n → ∀ q ∈ rm_dep.getD 469 [], q.1 = K a → aSm vs q (σ a) (σ' a)) (hb : rb_469 N K n p (vs.take j) σ) : rb_469 N K n p (vs.take j) σ' := by
  exact hb
set_option maxRecDepth 4000 in
theorem rs_470 {N : Int} {K : Nat → Nat} {n : Nat} {p : rP} {vs : List jv} {j : Nat} {σ σ' : Nat → jcell} (h : ∀ a, a < n → ∀ q ∈ rm_dep.getD 470 [], q.1 = K a → aSm vs q (σ a) (σ' a)) (hb : rb_470 N K n p (vs.take j) σ) : rb_470 N K n p (vs.take j) σ' := by
  exact hb
set_option maxRecDepth 4000 in
theorem rs_471 {N : Int} {K : Nat → Nat} {n : Nat} {p : rP} {vs : List jv} {j : Nat} {σ σ' : Nat → jcell} (h : ∀ a, a < n → ∀ q ∈ rm_dep.getD 471 [], q.1 = K a → aSm vs q (σ a) (σ' a)) (hb : rb_471 N K n p (vs.take j) σ) : rb_471 N K n p (vs.take j) σ' := by
  exact hb
set_option maxRecDepth 4000 in
theorem rs_472 {N : Int} {K : Nat → Nat} {n : Nat} {p : rP} {vs : List jv} {j : Nat} {σ σ' : Nat → jcell} (h : ∀ a, a < n → ∀ q ∈ rm_dep.getD 472 [], q.1 = K a → aSm vs q (σ a) (σ' a)) (hb : rb_472 N K n p (vs.take j) σ) : rb_472 N K n p (vs.take j) σ' := by
  exact hb
set_option maxRecDepth 4000 in
theorem rs_473 {N : Int} {K : Nat → Nat} {n : Nat} {p : rP} {vs : List jv} {j : Nat} {σ σ' : Nat → jcell} (h : ∀ a, a < n → ∀ q ∈ rm_dep.getD 473 [], q.1 = K a → aSm vs q (σ a) (σ' a)) (hb : rb_473 N K n p (vs.take j) σ) : rb_473 N K n p (vs.take j) σ' := by
  exact hb
set_option maxRecDepth 4000 in
theorem rs_474 {N : Int} {K : Nat → Nat} {n : Nat} {p : rP} {vs : List jv} {j : Nat} {σ σ' : Nat → jcell} (h : ∀ a, a < n → ∀ q ∈ rm_dep.getD 474 [], q.1 = K a → aSm vs q (σ a) (σ' a)) (hb : rb_474 N K n p (vs.take j) σ) : rb_474 N K n p (vs.take j) σ' := by
  have m0 : ((109, [3], none) : aDe) ∈ rm_dep.getD 474 [] := List.mem_of_getElem? (i := 0) rfl
  have m1 : ((110, [], none) : aDe) ∈ rm_dep.getD 474 [] := List.mem_of_getElem? (i := 1) rfl
  obtain ⟨a0, hl, hb⟩ := rC_r_e hb
  rw [hl]
  have hb : ∃ z, p.2 = some z ∧ rJe K n σ a0 z := hb
  have r9 : ∃ z, p.2 = some z ∧ rJe K n σ' a0 z := by
    obtain ⟨z, hz, g, r, kk⟩ := hb
    exact ⟨z, hz, g, (rJl_st h m0 (by decide) m1 r), kk⟩
  exact r9
set_option maxRecDepth 4000 in
theorem rs_475 {N : Int} {K : Nat → Nat} {n : Nat} {p : rP} {vs : List jv} {j : Nat} {σ σ' : Nat → jcell} (h : ∀ a, a < n → ∀ q ∈ rm_dep.getD 475 [], q.1 = K a → aSm vs q (σ a) (σ' a)) (hb : rb_475 N K n p (vs.take j) σ) : rb_475 N K n p (vs.take j) σ' := by
  have m0 : ((109, [3], none) : aDe) ∈ rm_dep.getD 475 [] := List.mem_of_getElem? (i := 0) rfl
  have m1 : ((110, [], none) : aDe) ∈ rm_dep.getD 475 [] := List.mem_of_getElem? (i := 1) rfl
  obtain ⟨a0, a1, a2, a3, a4, a5, a6, hl, hb⟩ := rC_riiiiii_e hb
  rw [hl]
  have hb : a6.toInt < 0 → rJy K n σ a0 (524288 * a1.toInt + 262144 * a2.toInt + 4096 * a3.toInt + 64 * a4.toInt + a5.toInt - 524288) := hb
  have r9 : a6.toInt < 0 → rJy K n σ' a0 (524288 * a1.toInt + 262144 * a2.toInt + 4096 * a3.toInt + 64 * a4.toInt + a5.toInt - 524288) := by
    intro h9
    obtain ⟨k0, k1, g, r, kk⟩ := hb h9
    exact ⟨k0, k1, g, (rJl_st h m0 (by decide) m1 r), kk⟩
  exact r9
set_option maxRecDepth 4000 in
theorem rs_476 {N : Int} {K : Nat → Nat} {n : Nat} {p : rP} {vs : List jv} {j : Nat} {σ σ' : Nat → jcell} (h : ∀ a, a < n → ∀ q ∈ rm_dep.getD 476 [], q.1 = K a → aSm vs q (σ a) (σ' a)) (hb : rb_476 N K n p (vs.take j) σ) : rb_476 N K n p (vs.take j) σ' := by
  have m0 : ((109, [3], none) : aDe) ∈ rm_dep.getD 476 [] := List.mem_of_getElem? (i := 0) rfl
  have m1 : ((110, [], none) : aDe) ∈ rm_dep.getD 476 [] := List.mem_of_getElem? (i := 1) rfl
  obtain ⟨a0, a1, a2, a3, hl, hb⟩ := rC_riii_e hb
  rw [hl]
  have hb : ∃ g, rJl K n σ a0 109 3 110 327680 g ∧ 4 * (rJs g 327680 : Int) + 2 * max 0 (2 - a2.toInt) + rJg a1.toInt ≤ a3.toInt := hb
  have r9 : ∃ g, rJl K n σ' a0 109 3 110 327680 g ∧ 4 * (rJs g 327680 : Int) + 2 * max 0 (2 - a2.toInt) + rJg a1.toInt ≤ a3.toInt := by
    obtain ⟨g, r, kk⟩ := hb
    exact ⟨g, (rJl_st h m0 (by decide) m1 r), kk⟩
  exact r9
set_option maxRecDepth 4000 in
theorem rs_477 {N : Int} {K : Nat → Nat} {n : Nat} {p : rP} {vs : List jv} {j : Nat} {σ σ' : Nat → jcell} (h : ∀ a, a < n → ∀ q ∈ rm_dep.getD 477 [], q.1 = K a → aSm vs q (σ a) (σ' a)) (hb : rb_477 N K n p (vs.take j) σ) : rb_477 N K n p (vs.take j) σ' := by
  exact hb
set_option maxRecDepth 4000 in
theorem rs_478 {N : Int} {K : Nat → Nat} {n : Nat} {p : rP} {vs : List jv} {j : Nat} {σ σ' : Nat → jcell} (h : ∀ a, a < n → ∀ q ∈ rm_dep.getD 478 [], q.1 = K a → aSm vs q (σ a) (σ' a)) (hb : rb_478 N K n p (vs.take j) σ) : rb_478 N K n p (vs.take j) σ' := by
  exact hb
set_option maxRecDepth 4000 in
theorem rs_479 {N : Int} {K : Nat → Nat} {n : Nat} {p : rP} {vs : List jv} {j : Nat} {σ σ' : Nat → jcell} (h : ∀ a, a < n → ∀ q ∈ rm_dep.getD 479 [], q.1 = K a → aSm vs q (σ a) (σ' a)) (hb : rb_479 N K n p (vs.take j) σ) : rb_479 N K n p (vs.take j) σ' := by
  exact hb
set_option maxRecDepth 4000 in
theorem rs_480 {N : Int} {K : Nat → Nat} {n : Nat} {p : rP} {vs : List jv} {j : Nat} {σ σ' : Nat → jcell} (h : ∀ a, a < n → ∀ q ∈ rm_dep.getD 480 [], q.1 = K a → aSm vs q (σ a) (σ' a)) (hb : rb_480 N K n p (vs.take j) σ) : rb_480 N K n p (vs.take j) σ' := by
  have m0 : ((107, [], none) : aDe) ∈ rm_dep.getD 480 [] := List.mem_of_getElem? (i := 0) rfl
  obtain ⟨a0, a1, hl, hb⟩ := rC_ri_e hb
  rw [hl]
  have hb : ∃ g, rRw K n σ a0 107 4 g ∧ (g 0).toInt = a1.toInt := hb
  have r9 : ∃ g, rRw K n σ' a0 107 4 g ∧ (g 0).toInt = a1.toInt := by
    obtain ⟨g, r, kk⟩ := hb
    exact ⟨g, rRw_st h m0 r, kk⟩
  exact r9
set_option maxRecDepth 4000 in
theorem rs_481 {N : Int} {K : Nat → Nat} {n : Nat} {p : rP} {vs : List jv} {j : Nat} {σ σ' : Nat → jcell} (h : ∀ a, a < n → ∀ q ∈ rm_dep.getD 481 [], q.1 = K a → aSm vs q (σ a) (σ' a)) (hb : rb_481 N K n p (vs.take j) σ) : rb_481 N K n p (vs.take j) σ' := by
  have m0 : ((107, [], none) : aDe) ∈ rm_dep.getD 481 [] := List.mem_of_getElem? (i := 0) rfl
  obtain ⟨a0, a1, hl, hb⟩ := rC_ri_e hb
  rw [hl]
  have hb : ∃ g, rRw K n σ a0 107 4 g ∧ (g 1).toInt = a1.toInt := hb
  have r9 : ∃ g, rRw K n σ' a0 107 4 g ∧ (g 1).toInt = a1.toInt := by
    obtain ⟨g, r, kk⟩ := hb
    exact ⟨g, rRw_st h m0 r, kk⟩
  exact r9
set_option maxRecDepth 4000 in
theorem rs_482 {N : Int} {K : Nat → Nat} {n : Nat} {p : rP} {vs : List jv} {j : Nat} {σ σ' : Nat → jcell} (h : ∀ a, a < n → ∀ q ∈ rm_dep.getD 482 [], q.1 = K a → aSm vs q (σ a) (σ' a)) (hb : rb_482 N K n p (vs.take j) σ) : rb_482 N K n p (vs.take j) σ' := by
  have m0 : ((107, [], none) : aDe) ∈ rm_dep.getD 482 [] := List.mem_of_getElem? (i := 0) rfl
  obtain ⟨a0, a1, hl, hb⟩ := rC_ri_e hb
  rw [hl]
  have hb : ∃ g, rRw K n σ a0 107 4 g ∧ (g 2).toInt = a1.toInt := hb
  have r9 : ∃ g, rRw K n σ' a0 107 4 g ∧ (g 2).toInt = a1.toInt := by
    obtain ⟨g, r, kk⟩ := hb
    exact ⟨g, rRw_st h m0 r, kk⟩
  exact r9
set_option maxRecDepth 4000 in
theorem rs_483 {N : Int} {K : Nat → Nat} {n : Nat} {p : rP} {vs : List jv} {j : Nat} {σ σ' : Nat → jcell} (h : ∀ a, a < n → ∀ q ∈ rm_dep.getD 483 [], q.1 = K a → aSm vs q (σ a) (σ' a)) (hb : rb_483 N K n p (vs.take j) σ) : rb_483 N K n p (vs.take j) σ' := by
  have m0 : ((107, [], none) : aDe) ∈ rm_dep.getD 483 [] := List.mem_of_getElem? (i := 0) rfl
  obtain ⟨a0, a1, hl, hb⟩ := rC_ri_e hb
  rw [hl]
  have hb : ∃ g, rRw K n σ a0 107 4 g ∧ (g 3).toInt = a1.toInt := hb
  have r9 : ∃ g, rRw K n σ' a0 107 4 g ∧ (g 3).toInt = a1.toInt := by
    obtain ⟨g, r, kk⟩ := hb
    exact ⟨g, rRw_st h m0 r, kk⟩
  exact r9
set_option maxRecDepth 4000 in
theorem rs_484 {N : Int} {K : Nat → Nat} {n : Nat} {p : rP} {vs : List jv} {j : Nat} {σ σ' : Nat → jcell} (h : ∀ a, a < n → ∀ q ∈ rm_dep.getD 484 [], q.1 = K a → aSm vs q (σ a) (σ' a)) (hb : rb_484 N K n p (vs.take j) σ) : rb_484 N K n p (vs.take j) σ' := by
  have m0 : ((62, [7, 8, 9, 10, 11, 16, 17], none) : aDe) ∈ rm_dep.getD 484 [] := List.mem_of_getElem? (i := 0) rfl
  have m1 : ((65, [], none) : aDe) ∈ rm_dep.getD 484 [] := List.mem_of_getElem? (i := 1) rfl
  have m2 : ((66, [], none) : aDe) ∈ rm_dep.getD 484 [] := List.mem_of_getElem? (i := 2) rfl
  have m3 : ((67, [], none) : aDe) ∈ rm_dep.getD 484 [] := List.mem_of_getElem? (i := 3) rfl
  have m4 : ((68, [], none) : aDe) ∈ rm_dep.getD 484 [] := List.mem_of_getElem? (i := 4) rfl
  have m5 : ((69, [], none) : aDe) ∈ rm_dep.getD 484 [] := List.mem_of_getElem? (i := 5) rfl
  have m6 : ((74, [], none) : aDe) ∈ rm_dep.getD 484 [] := List.mem_of_getElem? (i := 6) rfl
  have m7 : ((75, [], none) : aDe) ∈ rm_dep.getD 484 [] := List.mem_of_getElem? (i := 7) rfl
  obtain ⟨a0, a1, a2, a3, hl, hb⟩ := rC_riii_e hb
  rw [hl]
  have hb : a3.toInt = 1 → ∃ C y, rTY K n σ a0 a1.toInt C y ∧ 0 ≤ a2.toInt ∧ a2.toInt ≤ C := hb
  have r9 : a3.toInt = 1 → ∃ C y, rTY K n σ' a0 a1.toInt C y ∧ 0 ≤ a2.toInt ∧ a2.toInt ≤ C := by
    intro h9
    obtain ⟨C, y, hY, k1⟩ := hb h9
    exact ⟨C, y, (rTY_st h m0 (by decide) (by decide) m1 m2 m3 m4 m5 m6 m7 hY), k1⟩
  exact r9
set_option maxRecDepth 4000 in
theorem rs_485 {N : Int} {K : Nat → Nat} {n : Nat} {p : rP} {vs : List jv} {j : Nat} {σ σ' : Nat → jcell} (h : ∀ a, a < n → ∀ q ∈ rm_dep.getD 485 [], q.1 = K a → aSm vs q (σ a) (σ' a)) (hb : rb_485 N K n p (vs.take j) σ) : rb_485 N K n p (vs.take j) σ' := by
  exact hb
set_option maxRecDepth 4000 in
theorem rs_486 {N : Int} {K : Nat → Nat} {n : Nat} {p : rP} {vs : List jv} {j : Nat} {σ σ' : Nat → jcell} (h : ∀ a, a < n → ∀ q ∈ rm_dep.getD 486 [], q.1 = K a → aSm vs q (σ a) (σ' a)) (hb : rb_486 N K n p (vs.take j) σ) : rb_486 N K n p (vs.take j) σ' := by
  exact hb
set_option maxRecDepth 4000 in
theorem rs_487 {N : Int} {K : Nat → Nat} {n : Nat} {p : rP} {vs : List jv} {j : Nat} {σ σ' : Nat → jcell} (h : ∀ a, a < n → ∀ q ∈ rm_dep.getD 487 [], q.1 = K a → aSm vs q (σ a) (σ' a)) (hb : rb_487 N K n p (vs.take j) σ) : rb_487 N K n p (vs.take j) σ' := by
  exact hb
set_option maxRecDepth 4000 in
theorem rs_488 {N : Int} {K : Nat → Nat} {n : Nat} {p : rP} {vs : List jv} {j : Nat} {σ σ' : Nat → jcell} (h : ∀ a, a < n → ∀ q ∈ rm_dep.getD 488 [], q.1 = K a → aSm vs q (σ a) (σ' a)) (hb : rb_488 N K n p (vs.take j) σ) : rb_488 N K n p (vs.take j) σ' := by
  exact hb
set_option maxRecDepth 4000 in
theorem rs_489 {N : Int} {K : Nat → Nat} {n : Nat} {p : rP} {vs : List jv} {j : Nat} {σ σ' : Nat → jcell} (h : ∀ a, a < n → ∀ q ∈ rm_dep.getD 489 [], q.1 = K a → aSm vs q (σ a) (σ' a)) (hb : rb_489 N K n p (vs.take j) σ) : rb_489 N K n p (vs.take j) σ' := by
  have m0 : ((109, [3], none) : aDe) ∈ rm_dep.getD 489 [] := List.mem_of_getElem? (i := 0) rfl
  have m1 : ((110, [], none) : aDe) ∈ rm_dep.getD 489 [] := List.mem_of_getElem? (i := 1) rfl
  obtain ⟨a0, a1, hl, hb⟩ := rC_ri_e hb
  rw [hl]
  have hb : ∃ z, p.2 = some z ∧ (¬ (a1.toInt + 1) % 256 = 0 → rJe K n σ a0 (z - 1)) ∧ rJe K n σ a0 z := hb
  have r9 : ∃ z, p.2 = some z ∧ (¬ (a1.toInt + 1) % 256 = 0 → rJe K n σ' a0 (z - 1)) ∧ rJe K n σ' a0 z := by
    obtain ⟨z, hz, h1, g, r, kk⟩ := hb
    exact ⟨z, hz, fun h9 => by
      obtain ⟨g, r, kk⟩ := h1 h9
      exact ⟨g, (rJl_st h m0 (by decide) m1 r), kk⟩, g, (rJl_st h m0 (by decide) m1 r), kk⟩
  exact r9
set_option maxRecDepth 4000 in
theorem rs_490 {N : Int} {K : Nat → Nat} {n : Nat} {p : rP} {vs : List jv} {j : Nat} {σ σ' : Nat → jcell} (h : ∀ a, a < n → ∀ q ∈ rm_dep.getD 490 [], q.1 = K a → aSm vs q (σ a) (σ' a)) (hb : rb_490 N K n p (vs.take j) σ) : rb_490 N K n p (vs.take j) σ' := by
  have m0 : ((109, [3], none) : aDe) ∈ rm_dep.getD 490 [] := List.mem_of_getElem? (i := 0) rfl
  have m1 : ((110, [], none) : aDe) ∈ rm_dep.getD 490 [] := List.mem_of_getElem? (i := 1) rfl
  obtain ⟨a0, a1, a2, hl, hb⟩ := rC_rii_e hb
  rw [hl]
  have hb : ∃ z, p.2 = some z ∧ (a1.toInt = 1 → ¬ (a2.toInt + 1) % 256 = 0 → rJe K n σ a0 (z - 1)) ∧ rJe K n σ a0 z := hb
  have r9 : ∃ z, p.2 = some z ∧ (a1.toInt = 1 → ¬ (a2.toInt + 1) % 256 = 0 → rJe K n σ' a0 (z - 1)) ∧ rJe K n σ' a0 z := by
    obtain ⟨z, hz, h1, g, r, kk⟩ := hb
    exact ⟨z, hz, fun h8 h9 => by
      obtain ⟨g, r, kk⟩ := h1 h8 h9
      exact ⟨g, (rJl_st h m0 (by decide) m1 r), kk⟩, g, (rJl_st h m0 (by decide) m1 r), kk⟩
  exact r9
set_option maxRecDepth 4000 in
theorem rs_491 {N : Int} {K : Nat → Nat} {n : Nat} {p : rP} {vs : List jv} {j : Nat} {σ σ' : Nat → jcell} (h : ∀ a, a < n → ∀ q ∈ rm_dep.getD 491 [], q.1 = K a → aSm vs q (σ a) (σ' a)) (hb : rb_491 N K n p (vs.take j) σ) : rb_491 N K n p (vs.take j) σ' := by
  have m0 : ((109, [3], none) : aDe) ∈ rm_dep.getD 491 [] := List.mem_of_getElem? (i := 0) rfl
  have m1 : ((110, [], none) : aDe) ∈ rm_dep.getD 491 [] := List.mem_of_getElem? (i := 1) rfl
  obtain ⟨a0, a1, a2, a3, a4, a5, hl, hb⟩ := rC_riiiii_e hb
  rw [hl]
  have hb : rJy K n σ a0 (524288 * a1.toInt + 262144 * a2.toInt + 4096 * a3.toInt + 64 * a4.toInt + a5.toInt - 524288) := hb
  have r9 : rJy K n σ' a0 (524288 * a1.toInt + 262144 * a2.toInt + 4096 * a3.toInt + 64 * a4.toInt + a5.toInt - 524288) := by
    obtain ⟨k0, k1, g, r, kk⟩ := hb
    exact ⟨k0, k1, g, (rJl_st h m0 (by decide) m1 r), kk⟩
  exact r9
set_option maxRecDepth 4000 in
theorem rs_492 {N : Int} {K : Nat → Nat} {n : Nat} {p : rP} {vs : List jv} {j : Nat} {σ σ' : Nat → jcell} (h : ∀ a, a < n → ∀ q ∈ rm_dep.getD 492 [], q.1 = K a → aSm vs q (σ a) (σ' a)) (hb : rb_492 N K n p (vs.take j) σ) : rb_492 N K n p (vs.take j) σ' := by
  exact hb
set_option maxRecDepth 4000 in
theorem rs_493 {N : Int} {K : Nat → Nat} {n : Nat} {p : rP} {vs : List jv} {j : Nat} {σ σ' : Nat → jcell} (h : ∀ a, a < n → ∀ q ∈ rm_dep.getD 493 [], q.1 = K a → aSm vs q (σ a) (σ' a)) (hb : rb_493 N K n p (vs.take j) σ) : rb_493 N K n p (vs.take j) σ' := by
  exact hb
set_option maxRecDepth 4000 in
theorem rs_494 {N : Int} {K : Nat → Nat} {n : Nat} {p : rP} {vs : List jv} {j : Nat} {σ σ' : Nat → jcell} (h : ∀ a, a < n → ∀ q ∈ rm_dep.getD 494 [], q.1 = K a → aSm vs q (σ a) (σ' a)) (hb : rb_494 N K n p (vs.take j) σ) : rb_494 N K n p (vs.take j) σ' := by
  exact hb
set_option maxRecDepth 4000 in
theorem rs_495 {N : Int} {K : Nat → Nat} {n : Nat} {p : rP} {vs : List jv} {j : Nat} {σ σ' : Nat → jcell} (h : ∀ a, a < n → ∀ q ∈ rm_dep.getD 495 [], q.1 = K a → aSm vs q (σ a) (σ' a)) (hb : rb_495 N K n p (vs.take j) σ) : rb_495 N K n p (vs.take j) σ' := by
  exact hb
set_option maxRecDepth 4000 in
theorem rs_496 {N : Int} {K : Nat → Nat} {n : Nat} {p : rP} {vs : List jv} {j : Nat} {σ σ' : Nat → jcell} (h : ∀ a, a < n → ∀ q ∈ rm_dep.getD 496 [], q.1 = K a → aSm vs q (σ a) (σ' a)) (hb : rb_496 N K n p (vs.take j) σ) : rb_496 N K n p (vs.take j) σ' := by
  exact hb
theorem rXflllll_st {N : Int} {K : Nat → Nat} {n : Nat} {k : Nat} {vs : List jv} {j : Nat} {σ σ' : Nat → jcell} (h : ∀ a, a < n → ∀ q ∈ rm_dep.getD k [], q.1 = K a → aSm vs q (σ a) (σ' a)) (hb : rXflllll N K n k (vs.take j) σ) : rXflllll N K n k (vs.take j) σ' := by
  unfold rXflllll at hb ⊢
  cases c : Nat.beq k 342 with
  | true =>
    rw [c] at hb
    obtain rfl := Nat.eq_of_beq_eq_true c
    exact rs_342 (N := N) h hb
  | false =>
    rw [c] at hb
    exact hb.elim
theorem rXfllllrl_st {N : Int} {K : Nat → Nat} {n : Nat} {k : Nat} {vs : List jv} {j : Nat} {σ σ' : Nat → jcell} (h : ∀ a, a < n → ∀ q ∈ rm_dep.getD k [], q.1 = K a → aSm vs q (σ a) (σ' a)) (hb : rXfllllrl N K n k (vs.take j) σ) : rXfllllrl N K n k (vs.take j) σ' := by
  unfold rXfllllrl at hb ⊢
  cases c : Nat.beq k 343 with
  | true =>
    rw [c] at hb
    obtain rfl := Nat.eq_of_beq_eq_true c
    exact rs_343 (N := N) h hb
  | false =>
    rw [c] at hb
    exact hb.elim
theorem rXfllllrr_st {N : Int} {K : Nat → Nat} {n : Nat} {k : Nat} {vs : List jv} {j : Nat} {σ σ' : Nat → jcell} (h : ∀ a, a < n → ∀ q ∈ rm_dep.getD k [], q.1 = K a → aSm vs q (σ a) (σ' a)) (hb : rXfllllrr N K n k (vs.take j) σ) : rXfllllrr N K n k (vs.take j) σ' := by
  unfold rXfllllrr at hb ⊢
  cases c : Nat.beq k 344 with
  | true =>
    rw [c] at hb
    obtain rfl := Nat.eq_of_beq_eq_true c
    exact rs_344 (N := N) h hb
  | false =>
    rw [c] at hb
    exact hb.elim
theorem rXfllllr_st {N : Int} {K : Nat → Nat} {n : Nat} {k : Nat} {vs : List jv} {j : Nat} {σ σ' : Nat → jcell} (h : ∀ a, a < n → ∀ q ∈ rm_dep.getD k [], q.1 = K a → aSm vs q (σ a) (σ' a)) (hb : rXfllllr N K n k (vs.take j) σ) : rXfllllr N K n k (vs.take j) σ' := by
  unfold rXfllllr at hb ⊢
  cases c : Nat.ble k 343 with
  | true =>
    rw [c] at hb
    exact rXfllllrl_st h hb
  | false =>
    rw [c] at hb
    exact rXfllllrr_st h hb
theorem rXfllll_st {N : Int} {K : Nat → Nat} {n : Nat} {k : Nat} {vs : List jv} {j : Nat} {σ σ' : Nat → jcell} (h : ∀ a, a < n → ∀ q ∈ rm_dep.getD k [], q.1 = K a → aSm vs q (σ a) (σ' a)) (hb : rXfllll N K n k (vs.take j) σ) : rXfllll N K n k (vs.take j) σ' := by
  unfold rXfllll at hb ⊢
  cases c : Nat.ble k 342 with
  | true =>
    rw [c] at hb
    exact rXflllll_st h hb
  | false =>
    rw [c] at hb
    exact rXfllllr_st h hb
theorem rXflllrll_st {N : Int} {K : Nat → Nat} {n : Nat} {k : Nat} {vs : List jv} {j : Nat} {σ σ' : Nat → jcell} (h : ∀ a, a < n → ∀ q ∈ rm_dep.getD k [], q.1 = K a → aSm vs q (σ a) (σ' a)) (hb : rXflllrll N K n k (vs.take j) σ) : rXflllrll N K n k (vs.take j) σ' := by
  unfold rXflllrll at hb ⊢
  cases c : Nat.beq k 345 with
  | true =>
    rw [c] at hb
    obtain rfl := Nat.eq_of_beq_eq_true c
    exact rs_345 (N := N) h hb
  | false =>
    rw [c] at hb
    exact hb.elim
theorem rXflllrlr_st {N : Int} {K : Nat → Nat} {n : Nat} {k : Nat} {vs : List jv} {j : Nat} {σ σ' : Nat → jcell} (h : ∀ a, a < n → ∀ q ∈ rm_dep.getD k [], q.1 = K a → aSm vs q (σ a) (σ' a)) (hb : rXflllrlr N K n k (vs.take j) σ) : rXflllrlr N K n k (vs.take j) σ' := by
  unfold rXflllrlr at hb ⊢
  cases c : Nat.beq k 346 with
  | true =>
    rw [c] at hb
    obtain rfl := Nat.eq_of_beq_eq_true c
    exact rs_346 (N := N) h hb
  | false =>
    rw [c] at hb
    exact hb.elim
theorem rXflllrl_st {N : Int} {K : Nat → Nat} {n : Nat} {k : Nat} {vs : List jv} {j : Nat} {σ σ' : Nat → jcell} (h : ∀ a, a < n → ∀ q ∈ rm_dep.getD k [], q.1 = K a → aSm vs q (σ a) (σ' a)) (hb : rXflllrl N K n k (vs.take j) σ) : rXflllrl N K n k (vs.take j) σ' := by
  unfold rXflllrl at hb ⊢
  cases c : Nat.ble k 345 with
  | true =>
    rw [c] at hb
    exact rXflllrll_st h hb
  | false =>
    rw [c] at hb
    exact rXflllrlr_st h hb
theorem rXflllrrl_st {N : Int} {K : Nat → Nat} {n : Nat} {k : Nat} {vs : List jv} {j : Nat} {σ σ' : Nat → jcell} (h : ∀ a, a < n → ∀ q ∈ rm_dep.getD k [], q.1 = K a → aSm vs q (σ a) (σ' a)) (hb : rXflllrrl N K n k (vs.take j) σ) : rXflllrrl N K n k (vs.take j) σ' := by
  unfold rXflllrrl at hb ⊢
  cases c : Nat.beq k 347 with
  | true =>
    rw [c] at hb
    obtain rfl := Nat.eq_of_beq_eq_true c
    exact rs_347 (N := N) h hb
  | false =>
    rw [c] at hb
    exact hb.elim
theorem rXflllrrr_st {N : Int} {K : Nat → Nat} {n : Nat} {k : Nat} {vs : List jv} {j : Nat} {σ σ' : Nat → jcell} (h : ∀ a, a < n → ∀ q ∈ rm_dep.getD k [], q.1 = K a → aSm vs q (σ a) (σ' a)) (hb : rXflllrrr N K n k (vs.take j) σ) : rXflllrrr N K n k (vs.take j) σ' := by
  unfold rXflllrrr at hb ⊢
  cases c : Nat.beq k 348 with
  | true =>
    rw [c] at hb
    obtain rfl := Nat.eq_of_beq_eq_true c
    exact rs_348 (N := N) h hb
  | false =>
    rw [c] at hb
    exact hb.elim
theorem rXflllrr_st {N : Int} {K : Nat → Nat} {n : Nat} {k : Nat} {vs : List jv} {j : Nat} {σ σ' : Nat → jcell} (h : ∀ a, a < n → ∀ q ∈ rm_dep.getD k [], q.1 = K a → aSm vs q (σ a) (σ' a)) (hb : rXflllrr N K n k (vs.take j) σ) : rXflllrr N K n k (vs.take j) σ' := by
  unfold rXflllrr at hb ⊢
  cases c : Nat.ble k 347 with
  | true =>
    rw [c] at hb
    exact rXflllrrl_st h hb
  | false =>
    rw [c] at hb
    exact rXflllrrr_st h hb
theorem rXflllr_st {N : Int} {K : Nat → Nat} {n : Nat} {k : Nat} {vs : List jv} {j : Nat} {σ σ' : Nat → jcell} (h : ∀ a, a < n → ∀ q ∈ rm_dep.getD k [], q.1 = K a → aSm vs q (σ a) (σ' a)) (hb : rXflllr N K n k (vs.take j) σ) : rXflllr N K n k (vs.take j) σ' := by
  unfold rXflllr at hb ⊢
  cases c : Nat.ble k 346 with
  | true =>
    rw [c] at hb
    exact rXflllrl_st h hb
  | false =>
    rw [c] at hb
    exact rXflllrr_st h hb
theorem rXflll_st {N : Int} {K : Nat → Nat} {n : Nat} {k : Nat} {vs : List jv} {j : Nat} {σ σ' : Nat → jcell} (h : ∀ a, a < n → ∀ q ∈ rm_dep.getD k [], q.1 = K a → aSm vs q (σ a) (σ' a)) (hb : rXflll N K n k (vs.take j) σ) : rXflll N K n k (vs.take j) σ' := by
  unfold rXflll at hb ⊢
  cases c : Nat.ble k 344 with
  | true =>
    rw [c] at hb
    exact rXfllll_st h hb
  | false =>
    rw [c] at hb
    exact rXflllr_st h hb
theorem rXfllrll_st {N : Int} {K : Nat → Nat} {n : Nat} {k : Nat} {vs : List jv} {j : Nat} {σ σ' : Nat → jcell} (h : ∀ a, a < n → ∀ q ∈ rm_dep.getD k [], q.1 = K a → aSm vs q (σ a) (σ' a)) (hb : rXfllrll N K n k (vs.take j) σ) : rXfllrll N K n k (vs.take j) σ' := by
  unfold rXfllrll at hb ⊢
  cases c : Nat.beq k 349 with
  | true =>
    rw [c] at hb
    obtain rfl := Nat.eq_of_beq_eq_true c
    exact rs_349 (N := N) h hb
  | false =>
    rw [c] at hb
    exact hb.elim
theorem rXfllrlrl_st {N : Int} {K : Nat → Nat} {n : Nat} {k : Nat} {vs : List jv} {j : Nat} {σ σ' : Nat → jcell} (h : ∀ a, a < n → ∀ q ∈ rm_dep.getD k [], q.1 = K a → aSm vs q (σ a) (σ' a)) (hb : rXfllrlrl N K n k (vs.take j) σ) : rXfllrlrl N K n k (vs.take j) σ' := by
  unfold rXfllrlrl at hb ⊢
  cases c : Nat.beq k 350 with
  | true =>
    rw [c] at hb
    obtain rfl := Nat.eq_of_beq_eq_true c
    exact rs_350 (N := N) h hb
  | false =>
    rw [c] at hb
    exact hb.elim
theorem rXfllrlrr_st {N : Int} {K : Nat → Nat} {n : Nat} {k : Nat} {vs : List jv} {j : Nat} {σ σ' : Nat → jcell} (h : ∀ a, a < n → ∀ q ∈ rm_dep.getD k [], q.1 = K a → aSm vs q (σ a) (σ' a)) (hb : rXfllrlrr N K n k (vs.take j) σ) : rXfllrlrr N K n k (vs.take j) σ' := by
  unfold rXfllrlrr at hb ⊢
  cases c : Nat.beq k 351 with
  | true =>
    rw [c] at hb
    obtain rfl := Nat.eq_of_beq_eq_true c
    exact rs_351 (N := N) h hb
  | false =>
    rw [c] at hb
    exact hb.elim
theorem rXfllrlr_st {N : Int} {K : Nat → Nat} {n : Nat} {k : Nat} {vs : List jv} {j : Nat} {σ σ' : Nat → jcell} (h : ∀ a, a < n → ∀ q ∈ rm_dep.getD k [], q.1 = K a → aSm vs q (σ a) (σ' a)) (hb : rXfllrlr N K n k (vs.take j) σ) : rXfllrlr N K n k (vs.take j) σ' := by
  unfold rXfllrlr at hb ⊢
  cases c : Nat.ble k 350 with
  | true =>
    rw [c] at hb
    exact rXfllrlrl_st h hb
  | false =>
    rw [c] at hb
    exact rXfllrlrr_st h hb
theorem rXfllrl_st {N : Int} {K : Nat → Nat} {n : Nat} {k : Nat} {vs : List jv} {j : Nat} {σ σ' : Nat → jcell} (h : ∀ a, a < n → ∀ q ∈ rm_dep.getD k [], q.1 = K a → aSm vs q (σ a) (σ' a)) (hb : rXfllrl N K n k (vs.take j) σ) : rXfllrl N K n k (vs.take j) σ' := by
  unfold rXfllrl at hb ⊢
  cases c : Nat.ble k 349 with
  | true =>
    rw [c] at hb
    exact rXfllrll_st h hb
  | false =>
    rw [c] at hb
    exact rXfllrlr_st h hb
theorem rXfllrrll_st {N : Int} {K : Nat → Nat} {n : Nat} {k : Nat} {vs : List jv} {j : Nat} {σ σ' : Nat → jcell} (h : ∀ a, a < n → ∀ q ∈ rm_dep.getD k [], q.1 = K a → aSm vs q (σ a) (σ' a)) (hb : rXfllrrll N K n k (vs.take j) σ) : rXfllrrll N K n k (vs.take j) σ' := by
  unfold rXfllrrll at hb ⊢
  cases c : Nat.beq k 352 with
  | true =>
    rw [c] at hb
    obtain rfl := Nat.eq_of_beq_eq_true c
    exact rs_352 (N := N) h hb
  | false =>
    rw [c] at hb
    exact hb.elim
theorem rXfllrrlr_st {N : Int} {K : Nat → Nat} {n : Nat} {k : Nat} {vs : List jv} {j : Nat} {σ σ' : Nat → jcell} (h : ∀ a, a < n → ∀ q ∈ rm_dep.getD k [], q.1 = K a → aSm vs q (σ a) (σ' a)) (hb : rXfllrrlr N K n k (vs.take j) σ) : rXfllrrlr N K n k (vs.take j) σ' := by
  unfold rXfllrrlr at hb ⊢
  cases c : Nat.beq k 353 with
  | true =>
    rw [c] at hb
    obtain rfl := Nat.eq_of_beq_eq_true c
    exact rs_353 (N := N) h hb
  | false =>
    rw [c] at hb
    exact hb.elim
theorem rXfllrrl_st {N : Int} {K : Nat → Nat} {n : Nat} {k : Nat} {vs : List jv} {j : Nat} {σ σ' : Nat → jcell} (h : ∀ a, a < n → ∀ q ∈ rm_dep.getD k [], q.1 = K a → aSm vs q (σ a) (σ' a)) (hb : rXfllrrl N K n k (vs.take j) σ) : rXfllrrl N K n k (vs.take j) σ' := by
  unfold rXfllrrl at hb ⊢
  cases c : Nat.ble k 352 with
  | true =>
    rw [c] at hb
    exact rXfllrrll_st h hb
  | false =>
    rw [c] at hb
    exact rXfllrrlr_st h hb
theorem rXfllrrrl_st {N : Int} {K : Nat → Nat} {n : Nat} {k : Nat} {vs : List jv} {j : Nat} {σ σ' : Nat → jcell} (h : ∀ a, a < n → ∀ q ∈ rm_dep.getD k [], q.1 = K a → aSm vs q (σ a) (σ' a)) (hb : rXfllrrrl N K n k (vs.take j) σ) : rXfllrrrl N K n k (vs.take j) σ' := by
  unfold rXfllrrrl at hb ⊢
  cases c : Nat.beq k 354 with
  | true =>
    rw [c] at hb
    obtain rfl := Nat.eq_of_beq_eq_true c
    exact rs_354 (N := N) h hb
  | false =>
    rw [c] at hb
    exact hb.elim
theorem rXfllrrrr_st {N : Int} {K : Nat → Nat} {n : Nat} {k : Nat} {vs : List jv} {j : Nat} {σ σ' : Nat → jcell} (h : ∀ a, a < n → ∀ q ∈ rm_dep.getD k [], q.1 = K a → aSm vs q (σ a) (σ' a)) (hb : rXfllrrrr N K n k (vs.take j) σ) : rXfllrrrr N K n k (vs.take j) σ' := by
  unfold rXfllrrrr at hb ⊢
  cases c : Nat.beq k 355 with
  | true =>
    rw [c] at hb
    obtain rfl := Nat.eq_of_beq_eq_true c
    exact rs_355 (N := N) h hb
  | false =>
    rw [c] at hb
    exact hb.elim
theorem rXfllrrr_st {N : Int} {K : Nat → Nat} {n : Nat} {k : Nat} {vs : List jv} {j : Nat} {σ σ' : Nat → jcell} (h : ∀ a, a < n → ∀ q ∈ rm_dep.getD k [], q.1 = K a → aSm vs q (σ a) (σ' a)) (hb : rXfllrrr N K n k (vs.take j) σ) : rXfllrrr N K n k (vs.take j) σ' := by
  unfold rXfllrrr at hb ⊢
  cases c : Nat.ble k 354 with
  | true =>
    rw [c] at hb
    exact rXfllrrrl_st h hb
  | false =>
    rw [c] at hb
    exact rXfllrrrr_st h hb
theorem rXfllrr_st {N : Int} {K : Nat → Nat} {n : Nat} {k : Nat} {vs : List jv} {j : Nat} {σ σ' : Nat → jcell} (h : ∀ a, a < n → ∀ q ∈ rm_dep.getD k [], q.1 = K a → aSm vs q (σ a) (σ' a)) (hb : rXfllrr N K n k (vs.take j) σ) : rXfllrr N K n k (vs.take j) σ' := by
  unfold rXfllrr at hb ⊢
  cases c : Nat.ble k 353 with
  | true =>
    rw [c] at hb
    exact rXfllrrl_st h hb
  | false =>
    rw [c] at hb
    exact rXfllrrr_st h hb
theorem rXfllr_st {N : Int} {K : Nat → Nat} {n : Nat} {k : Nat} {vs : List jv} {j : Nat} {σ σ' : Nat → jcell} (h : ∀ a, a < n → ∀ q ∈ rm_dep.getD k [], q.1 = K a → aSm vs q (σ a) (σ' a)) (hb : rXfllr N K n k (vs.take j) σ) : rXfllr N K n k (vs.take j) σ' := by
  unfold rXfllr at hb ⊢
  cases c : Nat.ble k 351 with
  | true =>
    rw [c] at hb
    exact rXfllrl_st h hb
  | false =>
    rw [c] at hb
    exact rXfllrr_st h hb
theorem rXfll_st {N : Int} {K : Nat → Nat} {n : Nat} {k : Nat} {vs : List jv} {j : Nat} {σ σ' : Nat → jcell} (h : ∀ a, a < n → ∀ q ∈ rm_dep.getD k [], q.1 = K a → aSm vs q (σ a) (σ' a)) (hb : rXfll N K n k (vs.take j) σ) : rXfll N K n k (vs.take j) σ' := by
  unfold rXfll at hb ⊢
  cases c : Nat.ble k 348 with
  | true =>
    rw [c] at hb
    exact rXflll_st h hb
  | false =>
    rw [c] at hb
    exact rXfllr_st h hb
theorem rXflrlll_st {N : Int} {K : Nat → Nat} {n : Nat} {k : Nat} {vs : List jv} {j : Nat} {σ σ' : Nat → jcell} (h : ∀ a, a < n → ∀ q ∈ rm_dep.getD k [], q.1 = K a → aSm vs q (σ a) (σ' a)) (hb : rXflrlll N K n k (vs.take j) σ) : rXflrlll N K n k (vs.take j) σ' := by
  unfold rXflrlll at hb ⊢
  cases c : Nat.beq k 356 with
  | true =>
    rw [c] at hb
    obtain rfl := Nat.eq_of_beq_eq_true c
    exact rs_356 (N := N) h hb
  | false =>
    rw [c] at hb
    exact hb.elim
theorem rXflrllrl_st {N : Int} {K : Nat → Nat} {n : Nat} {k : Nat} {vs : List jv} {j : Nat} {σ σ' : Nat → jcell} (h : ∀ a, a < n → ∀ q ∈ rm_dep.getD k [], q.1 = K a → aSm vs q (σ a) (σ' a)) (hb : rXflrllrl N K n k (vs.take j) σ) : rXflrllrl N K n k (vs.take j) σ' := by
  unfold rXflrllrl at hb ⊢
  cases c : Nat.beq k 357 with
  | true =>
    rw [c] at hb
    obtain rfl := Nat.eq_of_beq_eq_true c
    exact rs_357 (N := N) h hb
  | false =>
    rw [c] at hb
    exact hb.elim
theorem rXflrllrr_st {N : Int} {K : Nat → Nat} {n : Nat} {k : Nat} {vs : List jv} {j : Nat} {σ σ' : Nat → jcell} (h : ∀ a, a < n → ∀ q ∈ rm_dep.getD k [], q.1 = K a → aSm vs q (σ a) (σ' a)) (hb : rXflrllrr N K n k (vs.take j) σ) : rXflrllrr N K n k (vs.take j) σ' := by
  unfold rXflrllrr at hb ⊢
  cases c : Nat.beq k 358 with
  | true =>
    rw [c] at hb
    obtain rfl := Nat.eq_of_beq_eq_true c
    exact rs_358 (N := N) h hb
  | false =>
    rw [c] at hb
    exact hb.elim
theorem rXflrllr_st {N : Int} {K : Nat → Nat} {n : Nat} {k : Nat} {vs : List jv} {j : Nat} {σ σ' : Nat → jcell} (h : ∀ a, a < n → ∀ q ∈ rm_dep.getD k [], q.1 = K a → aSm vs q (σ a) (σ' a)) (hb : rXflrllr N K n k (vs.take j) σ) : rXflrllr N K n k (vs.take j) σ' := by
  unfold rXflrllr at hb ⊢
  cases c : Nat.ble k 357 with
  | true =>
    rw [c] at hb
    exact rXflrllrl_st h hb
  | false =>
    rw [c] at hb
    exact rXflrllrr_st h hb
theorem rXflrll_st {N : Int} {K : Nat → Nat} {n : Nat} {k : Nat} {vs : List jv} {j : Nat} {σ σ' : Nat → jcell} (h : ∀ a, a < n → ∀ q ∈ rm_dep.getD k [], q.1 = K a → aSm vs q (σ a) (σ' a)) (hb : rXflrll N K n k (vs.take j) σ) : rXflrll N K n k (vs.take j) σ' := by
  unfold rXflrll at hb ⊢
  cases c : Nat.ble k 356 with
  | true =>
    rw [c] at hb
    exact rXflrlll_st h hb
  | false =>
    rw [c] at hb
    exact rXflrllr_st h hb
theorem rXflrlrll_st {N : Int} {K : Nat → Nat} {n : Nat} {k : Nat} {vs : List jv} {j : Nat} {σ σ' : Nat → jcell} (h : ∀ a, a < n → ∀ q ∈ rm_dep.getD k [], q.1 = K a → aSm vs q (σ a) (σ' a)) (hb : rXflrlrll N K n k (vs.take j) σ) : rXflrlrll N K n k (vs.take j) σ' := by
  unfold rXflrlrll at hb ⊢
  cases c : Nat.beq k 359 with
  | true =>
    rw [c] at hb
    obtain rfl := Nat.eq_of_beq_eq_true c
    exact rs_359 (N := N) h hb
  | false =>
    rw [c] at hb
    exact hb.elim
theorem rXflrlrlr_st {N : Int} {K : Nat → Nat} {n : Nat} {k : Nat} {vs : List jv} {j : Nat} {σ σ' : Nat → jcell} (h : ∀ a, a < n → ∀ q ∈ rm_dep.getD k [], q.1 = K a → aSm vs q (σ a) (σ' a)) (hb : rXflrlrlr N K n k (vs.take j) σ) : rXflrlrlr N K n k (vs.take j) σ' := by
  unfold rXflrlrlr at hb ⊢
  cases c : Nat.beq k 360 with
  | true =>
    rw [c] at hb
    obtain rfl := Nat.eq_of_beq_eq_true c
    exact rs_360 (N := N) h hb
  | false =>
    rw [c] at hb
    exact hb.elim
theorem rXflrlrl_st {N : Int} {K : Nat → Nat} {n : Nat} {k : Nat} {vs : List jv} {j : Nat} {σ σ' : Nat → jcell} (h : ∀ a, a < n → ∀ q ∈ rm_dep.getD k [], q.1 = K a → aSm vs q (σ a) (σ' a)) (hb : rXflrlrl N K n k (vs.take j) σ) : rXflrlrl N K n k (vs.take j) σ' := by
  unfold rXflrlrl at hb ⊢
  cases c : Nat.ble k 359 with
  | true =>
    rw [c] at hb
    exact rXflrlrll_st h hb
  | false =>
    rw [c] at hb
    exact rXflrlrlr_st h hb
theorem rXflrlrrl_st {N : Int} {K : Nat → Nat} {n : Nat} {k : Nat} {vs : List jv} {j : Nat} {σ σ' : Nat → jcell} (h : ∀ a, a < n → ∀ q ∈ rm_dep.getD k [], q.1 = K a → aSm vs q (σ a) (σ' a)) (hb : rXflrlrrl N K n k (vs.take j) σ) : rXflrlrrl N K n k (vs.take j) σ' := by
  unfold rXflrlrrl at hb ⊢
  cases c : Nat.beq k 361 with
  | true =>
    rw [c] at hb
    obtain rfl := Nat.eq_of_beq_eq_true c
    exact rs_361 (N := N) h hb
  | false =>
    rw [c] at hb
    exact hb.elim
theorem rXflrlrrr_st {N : Int} {K : Nat → Nat} {n : Nat} {k : Nat} {vs : List jv} {j : Nat} {σ σ' : Nat → jcell} (h : ∀ a, a < n → ∀ q ∈ rm_dep.getD k [], q.1 = K a → aSm vs q (σ a) (σ' a)) (hb : rXflrlrrr N K n k (vs.take j) σ) : rXflrlrrr N K n k (vs.take j) σ' := by
  unfold rXflrlrrr at hb ⊢
  cases c : Nat.beq k 362 with
  | true =>
    rw [c] at hb
    obtain rfl := Nat.eq_of_beq_eq_true c
    exact rs_362 (N := N) h hb
  | false =>
    rw [c] at hb
    exact hb.elim
theorem rXflrlrr_st {N : Int} {K : Nat → Nat} {n : Nat} {k : Nat} {vs : List jv} {j : Nat} {σ σ' : Nat → jcell} (h : ∀ a, a < n → ∀ q ∈ rm_dep.getD k [], q.1 = K a → aSm vs q (σ a) (σ' a)) (hb : rXflrlrr N K n k (vs.take j) σ) : rXflrlrr N K n k (vs.take j) σ' := by
  unfold rXflrlrr at hb ⊢
  cases c : Nat.ble k 361 with
  | true =>
    rw [c] at hb
    exact rXflrlrrl_st h hb
  | false =>
    rw [c] at hb
    exact rXflrlrrr_st h hb
theorem rXflrlr_st {N : Int} {K : Nat → Nat} {n : Nat} {k : Nat} {vs : List jv} {j : Nat} {σ σ' : Nat → jcell} (h : ∀ a, a < n → ∀ q ∈ rm_dep.getD k [], q.1 = K a → aSm vs q (σ a) (σ' a)) (hb : rXflrlr N K n k (vs.take j) σ) : rXflrlr N K n k (vs.take j) σ' := by
  unfold rXflrlr at hb ⊢
  cases c : Nat.ble k 360 with
  | true =>
    rw [c] at hb
    exact rXflrlrl_st h hb
  | false =>
    rw [c] at hb
    exact rXflrlrr_st h hb
theorem rXflrl_st {N : Int} {K : Nat → Nat} {n : Nat} {k : Nat} {vs : List jv} {j : Nat} {σ σ' : Nat → jcell} (h : ∀ a, a < n → ∀ q ∈ rm_dep.getD k [], q.1 = K a → aSm vs q (σ a) (σ' a)) (hb : rXflrl N K n k (vs.take j) σ) : rXflrl N K n k (vs.take j) σ' := by
  unfold rXflrl at hb ⊢
  cases c : Nat.ble k 358 with
  | true =>
    rw [c] at hb
    exact rXflrll_st h hb
  | false =>
    rw [c] at hb
    exact rXflrlr_st h hb
theorem rXflrrlll_st {N : Int} {K : Nat → Nat} {n : Nat} {k : Nat} {vs : List jv} {j : Nat} {σ σ' : Nat → jcell} (h : ∀ a, a < n → ∀ q ∈ rm_dep.getD k [], q.1 = K a → aSm vs q (σ a) (σ' a)) (hb : rXflrrlll N K n k (vs.take j) σ) : rXflrrlll N K n k (vs.take j) σ' := by
  unfold rXflrrlll at hb ⊢
  cases c : Nat.beq k 363 with
  | true =>
    rw [c] at hb
    obtain rfl := Nat.eq_of_beq_eq_true c
    exact rs_363 (N := N) h hb
  | false =>
    rw [c] at hb
    exact hb.elim
theorem rXflrrllr_st {N : Int} {K : Nat → Nat} {n : Nat} {k : Nat} {vs : List jv} {j : Nat} {σ σ' : Nat → jcell} (h : ∀ a, a < n → ∀ q ∈ rm_dep.getD k [], q.1 = K a → aSm vs q (σ a) (σ' a)) (hb : rXflrrllr N K n k (vs.take j) σ) : rXflrrllr N K n k (vs.take j) σ' := by
  unfold rXflrrllr at hb ⊢
  cases c : Nat.beq k 364 with
  | true =>
    rw [c] at hb
    obtain rfl := Nat.eq_of_beq_eq_true c
    exact rs_364 (N := N) h hb
  | false =>
    rw [c] at hb
    exact hb.elim
theorem rXflrrll_st {N : Int} {K : Nat → Nat} {n : Nat} {k : Nat} {vs : List jv} {j : Nat} {σ σ' : Nat → jcell} (h : ∀ a, a < n → ∀ q ∈ rm_dep.getD k [], q.1 = K a → aSm vs q (σ a) (σ' a)) (hb : rXflrrll N K n k (vs.take j) σ) : rXflrrll N K n k (vs.take j) σ' := by
  unfold rXflrrll at hb ⊢
  cases c : Nat.ble k 363 with
  | true =>
    rw [c] at hb
    exact rXflrrlll_st h hb
  | false =>
    rw [c] at hb
    exact rXflrrllr_st h hb
theorem rXflrrlrl_st {N : Int} {K : Nat → Nat} {n : Nat} {k : Nat} {vs : List jv} {j : Nat} {σ σ' : Nat → jcell} (h : ∀ a, a < n → ∀ q ∈ rm_dep.getD k [], q.1 = K a → aSm vs q (σ a) (σ' a)) (hb : rXflrrlrl N K n k (vs.take j) σ) : rXflrrlrl N K n k (vs.take j) σ' := by
  unfold rXflrrlrl at hb ⊢
  cases c : Nat.beq k 365 with
  | true =>
    rw [c] at hb
    obtain rfl := Nat.eq_of_beq_eq_true c
    exact rs_365 (N := N) h hb
  | false =>
    rw [c] at hb
    exact hb.elim
theorem rXflrrlrr_st {N : Int} {K : Nat → Nat} {n : Nat} {k : Nat} {vs : List jv} {j : Nat} {σ σ' : Nat → jcell} (h : ∀ a, a < n → ∀ q ∈ rm_dep.getD k [], q.1 = K a → aSm vs q (σ a) (σ' a)) (hb : rXflrrlrr N K n k (vs.take j) σ) : rXflrrlrr N K n k (vs.take j) σ' := by
  unfold rXflrrlrr at hb ⊢
  cases c : Nat.beq k 366 with
  | true =>
    rw [c] at hb
    obtain rfl := Nat.eq_of_beq_eq_true c
    exact rs_366 (N := N) h hb
  | false =>
    rw [c] at hb
    exact hb.elim
theorem rXflrrlr_st {N : Int} {K : Nat → Nat} {n : Nat} {k : Nat} {vs : List jv} {j : Nat} {σ σ' : Nat → jcell} (h : ∀ a, a < n → ∀ q ∈ rm_dep.getD k [], q.1 = K a → aSm vs q (σ a) (σ' a)) (hb : rXflrrlr N K n k (vs.take j) σ) : rXflrrlr N K n k (vs.take j) σ' := by
  unfold rXflrrlr at hb ⊢
  cases c : Nat.ble k 365 with
  | true =>
    rw [c] at hb
    exact rXflrrlrl_st h hb
  | false =>
    rw [c] at hb
    exact rXflrrlrr_st h hb
theorem rXflrrl_st {N : Int} {K : Nat → Nat} {n : Nat} {k : Nat} {vs : List jv} {j : Nat} {σ σ' : Nat → jcell} (h : ∀ a, a < n → ∀ q ∈ rm_dep.getD k [], q.1 = K a → aSm vs q (σ a) (σ' a)) (hb : rXflrrl N K n k (vs.take j) σ) : rXflrrl N K n k (vs.take j) σ' := by
  unfold rXflrrl at hb ⊢
  cases c : Nat.ble k 364 with
  | true =>
    rw [c] at hb
    exact rXflrrll_st h hb
  | false =>
    rw [c] at hb
    exact rXflrrlr_st h hb
theorem rXflrrrll_st {N : Int} {K : Nat → Nat} {n : Nat} {k : Nat} {vs : List jv} {j : Nat} {σ σ' : Nat → jcell} (h : ∀ a, a < n → ∀ q ∈ rm_dep.getD k [], q.1 = K a → aSm vs q (σ a) (σ' a)) (hb : rXflrrrll N K n k (vs.take j) σ) : rXflrrrll N K n k (vs.take j) σ' := by
  unfold rXflrrrll at hb ⊢
  cases c : Nat.beq k 367 with
  | true =>
    rw [c] at hb
    obtain rfl := Nat.eq_of_beq_eq_true c
    exact rs_367 (N := N) h hb
  | false =>
    rw [c] at hb
    exact hb.elim
theorem rXflrrrlr_st {N : Int} {K : Nat → Nat} {n : Nat} {k : Nat} {vs : List jv} {j : Nat} {σ σ' : Nat → jcell} (h : ∀ a, a < n → ∀ q ∈ rm_dep.getD k [], q.1 = K a → aSm vs q (σ a) (σ' a)) (hb : rXflrrrlr N K n k (vs.take j) σ) : rXflrrrlr N K n k (vs.take j) σ' := by
  unfold rXflrrrlr at hb ⊢
  cases c : Nat.beq k 368 with
  | true =>
    rw [c] at hb
    obtain rfl := Nat.eq_of_beq_eq_true c
    exact rs_368 (N := N) h hb
  | false =>
    rw [c] at hb
    exact hb.elim
theorem rXflrrrl_st {N : Int} {K : Nat → Nat} {n : Nat} {k : Nat} {vs : List jv} {j : Nat} {σ σ' : Nat → jcell} (h : ∀ a, a < n → ∀ q ∈ rm_dep.getD k [], q.1 = K a → aSm vs q (σ a) (σ' a)) (hb : rXflrrrl N K n k (vs.take j) σ) : rXflrrrl N K n k (vs.take j) σ' := by
  unfold rXflrrrl at hb ⊢
  cases c : Nat.ble k 367 with
  | true =>
    rw [c] at hb
    exact rXflrrrll_st h hb
  | false =>
    rw [c] at hb
    exact rXflrrrlr_st h hb
theorem rXflrrrrl_st {N : Int} {K : Nat → Nat} {n : Nat} {k : Nat} {vs : List jv} {j : Nat} {σ σ' : Nat → jcell} (h : ∀ a, a < n → ∀ q ∈ rm_dep.getD k [], q.1 = K a → aSm vs q (σ a) (σ' a)) (hb : rXflrrrrl N K n k (vs.take j) σ) : rXflrrrrl N K n k (vs.take j) σ' := by
  unfold rXflrrrrl at hb ⊢
  cases c : Nat.beq k 369 with
  | true =>
    rw [c] at hb
    obtain rfl := Nat.eq_of_beq_eq_true c
    exact rs_369 (N := N) h hb
  | false =>
    rw [c] at hb
    exact hb.elim
theorem rXflrrrrr_st {N : Int} {K : Nat → Nat} {n : Nat} {k : Nat} {vs : List jv} {j : Nat} {σ σ' : Nat → jcell} (h : ∀ a, a < n → ∀ q ∈ rm_dep.getD k [], q.1 = K a → aSm vs q (σ a) (σ' a)) (hb : rXflrrrrr N K n k (vs.take j) σ) : rXflrrrrr N K n k (vs.take j) σ' := by
  unfold rXflrrrrr at hb ⊢
  cases c : Nat.beq k 370 with
  | true =>
    rw [c] at hb
    obtain rfl := Nat.eq_of_beq_eq_true c
    exact rs_370 (N := N) h hb
  | false =>
    rw [c] at hb
    exact hb.elim
theorem rXflrrrr_st {N : Int} {K : Nat → Nat} {n : Nat} {k : Nat} {vs : List jv} {j : Nat} {σ σ' : Nat → jcell} (h : ∀ a, a < n → ∀ q ∈ rm_dep.getD k [], q.1 = K a → aSm vs q (σ a) (σ' a)) (hb : rXflrrrr N K n k (vs.take j) σ) : rXflrrrr N K n k (vs.take j) σ' := by
  unfold rXflrrrr at hb ⊢
  cases c : Nat.ble k 369 with
  | true =>
    rw [c] at hb
    exact rXflrrrrl_st h hb
  | false =>
    rw [c] at hb
    exact rXflrrrrr_st h hb
theorem rXflrrr_st {N : Int} {K : Nat → Nat} {n : Nat} {k : Nat} {vs : List jv} {j : Nat} {σ σ' : Nat → jcell} (h : ∀ a, a < n → ∀ q ∈ rm_dep.getD k [], q.1 = K a → aSm vs q (σ a) (σ' a)) (hb : rXflrrr N K n k (vs.take j) σ) : rXflrrr N K n k (vs.take j) σ' := by
  unfold rXflrrr at hb ⊢
  cases c : Nat.ble k 368 with
  | true =>
    rw [c] at hb
    exact rXflrrrl_st h hb
  | false =>
    rw [c] at hb
    exact rXflrrrr_st h hb
theorem rXflrr_st {N : Int} {K : Nat → Nat} {n : Nat} {k : Nat} {vs : List jv} {j : Nat} {σ σ' : Nat → jcell} (h : ∀ a, a < n → ∀ q ∈ rm_dep.getD k [], q.1 = K a → aSm vs q (σ a) (σ' a)) (hb : rXflrr N K n k (vs.take j) σ) : rXflrr N K n k (vs.take j) σ' := by
  unfold rXflrr at hb ⊢
  cases c : Nat.ble k 366 with
  | true =>
    rw [c] at hb
    exact rXflrrl_st h hb
  | false =>
    rw [c] at hb
    exact rXflrrr_st h hb
theorem rXflr_st {N : Int} {K : Nat → Nat} {n : Nat} {k : Nat} {vs : List jv} {j : Nat} {σ σ' : Nat → jcell} (h : ∀ a, a < n → ∀ q ∈ rm_dep.getD k [], q.1 = K a → aSm vs q (σ a) (σ' a)) (hb : rXflr N K n k (vs.take j) σ) : rXflr N K n k (vs.take j) σ' := by
  unfold rXflr at hb ⊢
  cases c : Nat.ble k 362 with
  | true =>
    rw [c] at hb
    exact rXflrl_st h hb
  | false =>
    rw [c] at hb
    exact rXflrr_st h hb
theorem rXfl_st {N : Int} {K : Nat → Nat} {n : Nat} {k : Nat} {vs : List jv} {j : Nat} {σ σ' : Nat → jcell} (h : ∀ a, a < n → ∀ q ∈ rm_dep.getD k [], q.1 = K a → aSm vs q (σ a) (σ' a)) (hb : rXfl N K n k (vs.take j) σ) : rXfl N K n k (vs.take j) σ' := by
  unfold rXfl at hb ⊢
  cases c : Nat.ble k 355 with
  | true =>
    rw [c] at hb
    exact rXfll_st h hb
  | false =>
    rw [c] at hb
    exact rXflr_st h hb
theorem rXfrllll_st {N : Int} {K : Nat → Nat} {n : Nat} {k : Nat} {vs : List jv} {j : Nat} {σ σ' : Nat → jcell} (h : ∀ a, a < n → ∀ q ∈ rm_dep.getD k [], q.1 = K a → aSm vs q (σ a) (σ' a)) (hb : rXfrllll N K n k (vs.take j) σ) : rXfrllll N K n k (vs.take j) σ' := by
  unfold rXfrllll at hb ⊢
  cases c : Nat.beq k 371 with
  | true =>
    rw [c] at hb
    obtain rfl := Nat.eq_of_beq_eq_true c
    exact rs_371 (N := N) h hb
  | false =>
    rw [c] at hb
    exact hb.elim
theorem rXfrlllrl_st {N : Int} {K : Nat → Nat} {n : Nat} {k : Nat} {vs : List jv} {j : Nat} {σ σ' : Nat → jcell} (h : ∀ a, a < n → ∀ q ∈ rm_dep.getD k [], q.1 = K a → aSm vs q (σ a) (σ' a)) (hb : rXfrlllrl N K n k (vs.take j) σ) : rXfrlllrl N K n k (vs.take j) σ' := by
  unfold rXfrlllrl at hb ⊢
  cases c : Nat.beq k 372 with
  | true =>
    rw [c] at hb
    obtain rfl := Nat.eq_of_beq_eq_true c
    exact rs_372 (N := N) h hb
  | false =>
    rw [c] at hb
    exact hb.elim
theorem rXfrlllrr_st {N : Int} {K : Nat → Nat} {n : Nat} {k : Nat} {vs : List jv} {j : Nat} {σ σ' : Nat → jcell} (h : ∀ a, a < n → ∀ q ∈ rm_dep.getD k [], q.1 = K a → aSm vs q (σ a) (σ' a)) (hb : rXfrlllrr N K n k (vs.take j) σ) : rXfrlllrr N K n k (vs.take j) σ' := by
  unfold rXfrlllrr at hb ⊢
  cases c : Nat.beq k 373 with
  | true =>
    rw [c] at hb
    obtain rfl := Nat.eq_of_beq_eq_true c
    exact rs_373 (N := N) h hb
  | false =>
    rw [c] at hb
    exact hb.elim
theorem rXfrlllr_st {N : Int} {K : Nat → Nat} {n : Nat} {k : Nat} {vs : List jv} {j : Nat} {σ σ' : Nat → jcell} (h : ∀ a, a < n → ∀ q ∈ rm_dep.getD k [], q.1 = K a → aSm vs q (σ a) (σ' a)) (hb : rXfrlllr N K n k (vs.take j) σ) : rXfrlllr N K n k (vs.take j) σ' := by
  unfold rXfrlllr at hb ⊢
  cases c : Nat.ble k 372 with
  | true =>
    rw [c] at hb
    exact rXfrlllrl_st h hb
  | false =>
    rw [c] at hb
    exact rXfrlllrr_st h hb
theorem rXfrlll_st {N : Int} {K : Nat → Nat} {n : Nat} {k : Nat} {vs : List jv} {j : Nat} {σ σ' : Nat → jcell} (h : ∀ a, a < n → ∀ q ∈ rm_dep.getD k [], q.1 = K a → aSm vs q (σ a) (σ' a)) (hb : rXfrlll N K n k (vs.take j) σ) : rXfrlll N K n k (vs.take j) σ' := by
  unfold rXfrlll at hb ⊢
  cases c : Nat.ble k 371 with
  | true =>
    rw [c] at hb
    exact rXfrllll_st h hb
  | false =>
    rw [c] at hb
    exact rXfrlllr_st h hb
theorem rXfrllrll_st {N : Int} {K : Nat → Nat} {n : Nat} {k : Nat} {vs : List jv} {j : Nat} {σ σ' : Nat → jcell} (h : ∀ a, a < n → ∀ q ∈ rm_dep.getD k [], q.1 = K a → aSm vs q (σ a) (σ' a)) (hb : rXfrllrll N K n k (vs.take j) σ) : rXfrllrll N K n k (vs.take j) σ' := by
  unfold rXfrllrll at hb ⊢
  cases c : Nat.beq k 374 with
  | true =>
    rw [c] at hb
    obtain rfl := Nat.eq_of_beq_eq_true c
    exact rs_374 (N := N) h hb
  | false =>
    rw [c] at hb
    exact hb.elim
theorem rXfrllrlr_st {N : Int} {K : Nat → Nat} {n : Nat} {k : Nat} {vs : List jv} {j : Nat} {σ σ' : Nat → jcell} (h : ∀ a, a < n → ∀ q ∈ rm_dep.getD k [], q.1 = K a → aSm vs q (σ a) (σ' a)) (hb : rXfrllrlr N K n k (vs.take j) σ) : rXfrllrlr N K n k (vs.take j) σ' := by
  unfold rXfrllrlr at hb ⊢
  cases c : Nat.beq k 375 with
  | true =>
    rw [c] at hb
    obtain rfl := Nat.eq_of_beq_eq_true c
    exact rs_375 (N := N) h hb
  | false =>
    rw [c] at hb
    exact hb.elim
theorem rXfrllrl_st {N : Int} {K : Nat → Nat} {n : Nat} {k : Nat} {vs : List jv} {j : Nat} {σ σ' : Nat → jcell} (h : ∀ a, a < n → ∀ q ∈ rm_dep.getD k [], q.1 = K a → aSm vs q (σ a) (σ' a)) (hb : rXfrllrl N K n k (vs.take j) σ) : rXfrllrl N K n k (vs.take j) σ' := by
  unfold rXfrllrl at hb ⊢
  cases c : Nat.ble k 374 with
  | true =>
    rw [c] at hb
    exact rXfrllrll_st h hb
  | false =>
    rw [c] at hb
    exact rXfrllrlr_st h hb
theorem rXfrllrrl_st {N : Int} {K : Nat → Nat} {n : Nat} {k : Nat} {vs : List jv} {j : Nat} {σ σ' : Nat → jcell} (h : ∀ a, a < n → ∀ q ∈ rm_dep.getD k [], q.1 = K a → aSm vs q (σ a) (σ' a)) (hb : rXfrllrrl N K n k (vs.take j) σ) : rXfrllrrl N K n k (vs.take j) σ' := by
  unfold rXfrllrrl at hb ⊢
  cases c : Nat.beq k 376 with
  | true =>
    rw [c] at hb
    obtain rfl := Nat.eq_of_beq_eq_true c
    exact rs_376 (N := N) h hb
  | false =>
    rw [c] at hb
    exact hb.elim
theorem rXfrllrrr_st {N : Int} {K : Nat → Nat} {n : Nat} {k : Nat} {vs : List jv} {j : Nat} {σ σ' : Nat → jcell} (h : ∀ a, a < n → ∀ q ∈ rm_dep.getD k [], q.1 = K a → aSm vs q (σ a) (σ' a)) (hb : rXfrllrrr N K n k (vs.take j) σ) : rXfrllrrr N K n k (vs.take j) σ' := by
  unfold rXfrllrrr at hb ⊢
  cases c : Nat.beq k 377 with
  | true =>
    rw [c] at hb
    obtain rfl := Nat.eq_of_beq_eq_true c
    exact rs_377 (N := N) h hb
  | false =>
    rw [c] at hb
    exact hb.elim
theorem rXfrllrr_st {N : Int} {K : Nat → Nat} {n : Nat} {k : Nat} {vs : List jv} {j : Nat} {σ σ' : Nat → jcell} (h : ∀ a, a < n → ∀ q ∈ rm_dep.getD k [], q.1 = K a → aSm vs q (σ a) (σ' a)) (hb : rXfrllrr N K n k (vs.take j) σ) : rXfrllrr N K n k (vs.take j) σ' := by
  unfold rXfrllrr at hb ⊢
  cases c : Nat.ble k 376 with
  | true =>
    rw [c] at hb
    exact rXfrllrrl_st h hb
  | false =>
    rw [c] at hb
    exact rXfrllrrr_st h hb
theorem rXfrllr_st {N : Int} {K : Nat → Nat} {n : Nat} {k : Nat} {vs : List jv} {j : Nat} {σ σ' : Nat → jcell} (h : ∀ a, a < n → ∀ q ∈ rm_dep.getD k [], q.1 = K a → aSm vs q (σ a) (σ' a)) (hb : rXfrllr N K n k (vs.take j) σ) : rXfrllr N K n k (vs.take j) σ' := by
  unfold rXfrllr at hb ⊢
  cases c : Nat.ble k 375 with
  | true =>
    rw [c] at hb
    exact rXfrllrl_st h hb
  | false =>
    rw [c] at hb
    exact rXfrllrr_st h hb
theorem rXfrll_st {N : Int} {K : Nat → Nat} {n : Nat} {k : Nat} {vs : List jv} {j : Nat} {σ σ' : Nat → jcell} (h : ∀ a, a < n → ∀ q ∈ rm_dep.getD k [], q.1 = K a → aSm vs q (σ a) (σ' a)) (hb : rXfrll N K n k (vs.take j) σ) : rXfrll N K n k (vs.take j) σ' := by
  unfold rXfrll at hb ⊢
  cases c : Nat.ble k 373 with
  | true =>
    rw [c] at hb
    exact rXfrlll_st h hb
  | false =>
    rw [c] at hb
    exact rXfrllr_st h hb
theorem rXfrlrll_st {N : Int} {K : Nat → Nat} {n : Nat} {k : Nat} {vs : List jv} {j : Nat} {σ σ' : Nat → jcell} (h : ∀ a, a < n → ∀ q ∈ rm_dep.getD k [], q.1 = K a → aSm vs q (σ a) (σ' a)) (hb : rXfrlrll N K n k (vs.take j) σ) : rXfrlrll N K n k (vs.take j) σ' := by
  unfold rXfrlrll at hb ⊢
  cases c : Nat.beq k 378 with
  | true =>
    rw [c] at hb
    obtain rfl := Nat.eq_of_beq_eq_true c
    exact rs_378 (N := N) h hb
  | false =>
    rw [c] at hb
    exact hb.elim
theorem rXfrlrlrl_st {N : Int} {K : Nat → Nat} {n : Nat} {k : Nat} {vs : List jv} {j : Nat} {σ σ' : Nat → jcell} (h : ∀ a, a < n → ∀ q ∈ rm_dep.getD k [], q.1 = K a → aSm vs q (σ a) (σ' a)) (hb : rXfrlrlrl N K n k (vs.take j) σ) : rXfrlrlrl N K n k (vs.take j) σ' := by
  unfold rXfrlrlrl at hb ⊢
  cases c : Nat.beq k 379 with
  | true =>
    rw [c] at hb
    obtain rfl := Nat.eq_of_beq_eq_true c
    exact rs_379 (N := N) h hb
  | false =>
    rw [c] at hb
    exact hb.elim
theorem rXfrlrlrr_st {N : Int} {K : Nat → Nat} {n : Nat} {k : Nat} {vs : List jv} {j : Nat} {σ σ' : Nat → jcell} (h : ∀ a, a < n → ∀ q ∈ rm_dep.getD k [], q.1 = K a → aSm vs q (σ a) (σ' a)) (hb : rXfrlrlrr N K n k (vs.take j) σ) : rXfrlrlrr N K n k (vs.take j) σ' := by
  unfold rXfrlrlrr at hb ⊢
  cases c : Nat.beq k 380 with
  | true =>
    rw [c] at hb
    obtain rfl := Nat.eq_of_beq_eq_true c
    exact rs_380 (N := N) h hb
  | false =>
    rw [c] at hb
    exact hb.elim
theorem rXfrlrlr_st {N : Int} {K : Nat → Nat} {n : Nat} {k : Nat} {vs : List jv} {j : Nat} {σ σ' : Nat → jcell} (h : ∀ a, a < n → ∀ q ∈ rm_dep.getD k [], q.1 = K a → aSm vs q (σ a) (σ' a)) (hb : rXfrlrlr N K n k (vs.take j) σ) : rXfrlrlr N K n k (vs.take j) σ' := by
  unfold rXfrlrlr at hb ⊢
  cases c : Nat.ble k 379 with
  | true =>
    rw [c] at hb
    exact rXfrlrlrl_st h hb
  | false =>
    rw [c] at hb
    exact rXfrlrlrr_st h hb
theorem rXfrlrl_st {N : Int} {K : Nat → Nat} {n : Nat} {k : Nat} {vs : List jv} {j : Nat} {σ σ' : Nat → jcell} (h : ∀ a, a < n → ∀ q ∈ rm_dep.getD k [], q.1 = K a → aSm vs q (σ a) (σ' a)) (hb : rXfrlrl N K n k (vs.take j) σ) : rXfrlrl N K n k (vs.take j) σ' := by
  unfold rXfrlrl at hb ⊢
  cases c : Nat.ble k 378 with
  | true =>
    rw [c] at hb
    exact rXfrlrll_st h hb
  | false =>
    rw [c] at hb
    exact rXfrlrlr_st h hb
theorem rXfrlrrll_st {N : Int} {K : Nat → Nat} {n : Nat} {k : Nat} {vs : List jv} {j : Nat} {σ σ' : Nat → jcell} (h : ∀ a, a < n → ∀ q ∈ rm_dep.getD k [], q.1 = K a → aSm vs q (σ a) (σ' a)) (hb : rXfrlrrll N K n k (vs.take j) σ) : rXfrlrrll N K n k (vs.take j) σ' := by
  unfold rXfrlrrll at hb ⊢
  cases c : Nat.beq k 381 with
  | true =>
    rw [c] at hb
    obtain rfl := Nat.eq_of_beq_eq_true c
    exact rs_381 (N := N) h hb
  | false =>
    rw [c] at hb
    exact hb.elim
theorem rXfrlrrlr_st {N : Int} {K : Nat → Nat} {n : Nat} {k : Nat} {vs : List jv} {j : Nat} {σ σ' : Nat → jcell} (h : ∀ a, a < n → ∀ q ∈ rm_dep.getD k [], q.1 = K a → aSm vs q (σ a) (σ' a)) (hb : rXfrlrrlr N K n k (vs.take j) σ) : rXfrlrrlr N K n k (vs.take j) σ' := by
  unfold rXfrlrrlr at hb ⊢
  cases c : Nat.beq k 382 with
  | true =>
    rw [c] at hb
    obtain rfl := Nat.eq_of_beq_eq_true c
    exact rs_382 (N := N) h hb
  | false =>
    rw [c] at hb
    exact hb.elim
theorem rXfrlrrl_st {N : Int} {K : Nat → Nat} {n : Nat} {k : Nat} {vs : List jv} {j : Nat} {σ σ' : Nat → jcell} (h : ∀ a, a < n → ∀ q ∈ rm_dep.getD k [], q.1 = K a → aSm vs q (σ a) (σ' a)) (hb : rXfrlrrl N K n k (vs.take j) σ) : rXfrlrrl N K n k (vs.take j) σ' := by
  unfold rXfrlrrl at hb ⊢
  cases c : Nat.ble k 381 with
  | true =>
    rw [c] at hb
    exact rXfrlrrll_st h hb
  | false =>
    rw [c] at hb
    exact rXfrlrrlr_st h hb
theorem rXfrlrrrl_st {N : Int} {K : Nat → Nat} {n : Nat} {k : Nat} {vs : List jv} {j : Nat} {σ σ' : Nat → jcell} (h : ∀ a, a < n → ∀ q ∈ rm_dep.getD k [], q.1 = K a → aSm vs q (σ a) (σ' a)) (hb : rXfrlrrrl N K n k (vs.take j) σ) : rXfrlrrrl N K n k (vs.take j) σ' := by
  unfold rXfrlrrrl at hb ⊢
  cases c : Nat.beq k 383 with
  | true =>
    rw [c] at hb
    obtain rfl := Nat.eq_of_beq_eq_true c
    exact rs_383 (N := N) h hb
  | false =>
    rw [c] at hb
    exact hb.elim
theorem rXfrlrrrr_st {N : Int} {K : Nat → Nat} {n : Nat} {k : Nat} {vs : List jv} {j : Nat} {σ σ' : Nat → jcell} (h : ∀ a, a < n → ∀ q ∈ rm_dep.getD k [], q.1 = K a → aSm vs q (σ a) (σ' a)) (hb : rXfrlrrrr N K n k (vs.take j) σ) : rXfrlrrrr N K n k (vs.take j) σ' := by
  unfold rXfrlrrrr at hb ⊢
  cases c : Nat.beq k 384 with
  | true =>
    rw [c] at hb
    obtain rfl := Nat.eq_of_beq_eq_true c
    exact rs_384 (N := N) h hb
  | false =>
    rw [c] at hb
    exact hb.elim
theorem rXfrlrrr_st {N : Int} {K : Nat → Nat} {n : Nat} {k : Nat} {vs : List jv} {j : Nat} {σ σ' : Nat → jcell} (h : ∀ a, a < n → ∀ q ∈ rm_dep.getD k [], q.1 = K a → aSm vs q (σ a) (σ' a)) (hb : rXfrlrrr N K n k (vs.take j) σ) : rXfrlrrr N K n k (vs.take j) σ' := by
  unfold rXfrlrrr at hb ⊢
  cases c : Nat.ble k 383 with
  | true =>
    rw [c] at hb
    exact rXfrlrrrl_st h hb
  | false =>
    rw [c] at hb
    exact rXfrlrrrr_st h hb
theorem rXfrlrr_st {N : Int} {K : Nat → Nat} {n : Nat} {k : Nat} {vs : List jv} {j : Nat} {σ σ' : Nat → jcell} (h : ∀ a, a < n → ∀ q ∈ rm_dep.getD k [], q.1 = K a → aSm vs q (σ a) (σ' a)) (hb : rXfrlrr N K n k (vs.take j) σ) : rXfrlrr N K n k (vs.take j) σ' := by
  unfold rXfrlrr at hb ⊢
  cases c : Nat.ble k 382 with
  | true =>
    rw [c] at hb
    exact rXfrlrrl_st h hb
  | false =>
    rw [c] at hb
    exact rXfrlrrr_st h hb
theorem rXfrlr_st {N : Int} {K : Nat → Nat} {n : Nat} {k : Nat} {vs : List jv} {j : Nat} {σ σ' : Nat → jcell} (h : ∀ a, a < n → ∀ q ∈ rm_dep.getD k [], q.1 = K a → aSm vs q (σ a) (σ' a)) (hb : rXfrlr N K n k (vs.take j) σ) : rXfrlr N K n k (vs.take j) σ' := by
  unfold rXfrlr at hb ⊢
  cases c : Nat.ble k 380 with
  | true =>
    rw [c] at hb
    exact rXfrlrl_st h hb
  | false =>
    rw [c] at hb
    exact rXfrlrr_st h hb
theorem rXfrl_st {N : Int} {K : Nat → Nat} {n : Nat} {k : Nat} {vs : List jv} {j : Nat} {σ σ' : Nat → jcell} (h : ∀ a, a < n → ∀ q ∈ rm_dep.getD k [], q.1 = K a → aSm vs q (σ a) (σ' a)) (hb : rXfrl N K n k (vs.take j) σ) : rXfrl N K n k (vs.take j) σ' := by
  unfold rXfrl at hb ⊢
  cases c : Nat.ble k 377 with
  | true =>
    rw [c] at hb
    exact rXfrll_st h hb
  | false =>
    rw [c] at hb
    exact rXfrlr_st h hb
theorem rXfrrlll_st {N : Int} {K : Nat → Nat} {n : Nat} {k : Nat} {vs : List jv} {j : Nat} {σ σ' : Nat → jcell} (h : ∀ a, a < n → ∀ q ∈ rm_dep.getD k [], q.1 = K a → aSm vs q (σ a) (σ' a)) (hb : rXfrrlll N K n k (vs.take j) σ) : rXfrrlll N K n k (vs.take j) σ' := by
  unfold rXfrrlll at hb ⊢
  cases c : Nat.beq k 385 with
  | true =>
    rw [c] at hb
    obtain rfl := Nat.eq_of_beq_eq_true c
    exact rs_385 (N := N) h hb
  | false =>
    rw [c] at hb
    exact hb.elim
theorem rXfrrllrl_st {N : Int} {K : Nat → Nat} {n : Nat} {k : Nat} {vs : List jv} {j : Nat} {σ σ' : Nat → jcell} (h : ∀ a, a < n → ∀ q ∈ rm_dep.getD k [], q.1 = K a → aSm vs q (σ a) (σ' a)) (hb : rXfrrllrl N K n k (vs.take j) σ) : rXfrrllrl N K n k (vs.take j) σ' := by
  unfold rXfrrllrl at hb ⊢
  cases c : Nat.beq k 386 with
  | true =>
    rw [c] at hb
    obtain rfl := Nat.eq_of_beq_eq_true c
    exact rs_386 (N := N) h hb
  | false =>
    rw [c] at hb
    exact hb.elim
theorem rXfrrllrr_st {N : Int} {K : Nat → Nat} {n : Nat} {k : Nat} {vs : List jv} {j : Nat} {σ σ' : Nat → jcell} (h : ∀ a, a < n → ∀ q ∈ rm_dep.getD k [], q.1 = K a → aSm vs q (σ a) (σ' a)) (hb : rXfrrllrr N K n k (vs.take j) σ) : rXfrrllrr N K n k (vs.take j) σ' := by
  unfold rXfrrllrr at hb ⊢
  cases c : Nat.beq k 387 with
  | true =>
    rw [c] at hb
    obtain rfl := Nat.eq_of_beq_eq_true c
    exact rs_387 (N := N) h hb
  | false =>
    rw [c] at hb
    exact hb.elim
theorem rXfrrllr_st {N : Int} {K : Nat → Nat} {n : Nat} {k : Nat} {vs : List jv} {j : Nat} {σ σ' : Nat → jcell} (h : ∀ a, a < n → ∀ q ∈ rm_dep.getD k [], q.1 = K a → aSm vs q (σ a) (σ' a)) (hb : rXfrrllr N K n k (vs.take j) σ) : rXfrrllr N K n k (vs.take j) σ' := by
  unfold rXfrrllr at hb ⊢
  cases c : Nat.ble k 386 with
  | true =>
    rw [c] at hb
    exact rXfrrllrl_st h hb
  | false =>
    rw [c] at hb
    exact rXfrrllrr_st h hb
theorem rXfrrll_st {N : Int} {K : Nat → Nat} {n : Nat} {k : Nat} {vs : List jv} {j : Nat} {σ σ' : Nat → jcell} (h : ∀ a, a < n → ∀ q ∈ rm_dep.getD k [], q.1 = K a → aSm vs q (σ a) (σ' a)) (hb : rXfrrll N K n k (vs.take j) σ) : rXfrrll N K n k (vs.take j) σ' := by
  unfold rXfrrll at hb ⊢
  cases c : Nat.ble k 385 with
  | true =>
    rw [c] at hb
    exact rXfrrlll_st h hb
  | false =>
    rw [c] at hb
    exact rXfrrllr_st h hb
theorem rXfrrlrll_st {N : Int} {K : Nat → Nat} {n : Nat} {k : Nat} {vs : List jv} {j : Nat} {σ σ' : Nat → jcell} (h : ∀ a, a < n → ∀ q ∈ rm_dep.getD k [], q.1 = K a → aSm vs q (σ a) (σ' a)) (hb : rXfrrlrll N K n k (vs.take j) σ) : rXfrrlrll N K n k (vs.take j) σ' := by
  unfold rXfrrlrll at hb ⊢
  cases c : Nat.beq k 388 with
  | true =>
    rw [c] at hb
    obtain rfl := Nat.eq_of_beq_eq_true c
    exact rs_388 (N := N) h hb
  | false =>
    rw [c] at hb
    exact hb.elim
theorem rXfrrlrlr_st {N : Int} {K : Nat → Nat} {n : Nat} {k : Nat} {vs : List jv} {j : Nat} {σ σ' : Nat → jcell} (h : ∀ a, a < n → ∀ q ∈ rm_dep.getD k [], q.1 = K a → aSm vs q (σ a) (σ' a)) (hb : rXfrrlrlr N K n k (vs.take j) σ) : rXfrrlrlr N K n k (vs.take j) σ' := by
  unfold rXfrrlrlr at hb ⊢
  cases c : Nat.beq k 389 with
  | true =>
    rw [c] at hb
    obtain rfl := Nat.eq_of_beq_eq_true c
    exact rs_389 (N := N) h hb
  | false =>
    rw [c] at hb
    exact hb.elim
theorem rXfrrlrl_st {N : Int} {K : Nat → Nat} {n : Nat} {k : Nat} {vs : List jv} {j : Nat} {σ σ' : Nat → jcell} (h : ∀ a, a < n → ∀ q ∈ rm_dep.getD k [], q.1 = K a → aSm vs q (σ a) (σ' a)) (hb : rXfrrlrl N K n k (vs.take j) σ) : rXfrrlrl N K n k (vs.take j) σ' := by
  unfold rXfrrlrl at hb ⊢
  cases c : Nat.ble k 388 with
  | true =>
    rw [c] at hb
    exact rXfrrlrll_st h hb
  | false =>
    rw [c] at hb
    exact rXfrrlrlr_st h hb
theorem rXfrrlrrl_st {N : Int} {K : Nat → Nat} {n : Nat} {k : Nat} {vs : List jv} {j : Nat} {σ σ' : Nat → jcell} (h : ∀ a, a < n → ∀ q ∈ rm_dep.getD k [], q.1 = K a → aSm vs q (σ a) (σ' a)) (hb : rXfrrlrrl N K n k (vs.take j) σ) : rXfrrlrrl N K n k (vs.take j) σ' := by
  unfold rXfrrlrrl at hb ⊢
  cases c : Nat.beq k 390 with
  | true =>
    rw [c] at hb
    obtain rfl := Nat.eq_of_beq_eq_true c
    exact rs_390 (N := N) h hb
  | false =>
    rw [c] at hb
    exact hb.elim
theorem rXfrrlrrr_st {N : Int} {K : Nat → Nat} {n : Nat} {k : Nat} {vs : List jv} {j : Nat} {σ σ' : Nat → jcell} (h : ∀ a, a < n → ∀ q ∈ rm_dep.getD k [], q.1 = K a → aSm vs q (σ a) (σ' a)) (hb : rXfrrlrrr N K n k (vs.take j) σ) : rXfrrlrrr N K n k (vs.take j) σ' := by
  unfold rXfrrlrrr at hb ⊢
  cases c : Nat.beq k 391 with
  | true =>
    rw [c] at hb
    obtain rfl := Nat.eq_of_beq_eq_true c
    exact rs_391 (N := N) h hb
  | false =>
    rw [c] at hb
    exact hb.elim
theorem rXfrrlrr_st {N : Int} {K : Nat → Nat} {n : Nat} {k : Nat} {vs : List jv} {j : Nat} {σ σ' : Nat → jcell} (h : ∀ a, a < n → ∀ q ∈ rm_dep.getD k [], q.1 = K a → aSm vs q (σ a) (σ' a)) (hb : rXfrrlrr N K n k (vs.take j) σ) : rXfrrlrr N K n k (vs.take j) σ' := by
  unfold rXfrrlrr at hb ⊢
  cases c : Nat.ble k 390 with
  | true =>
    rw [c] at hb
    exact rXfrrlrrl_st h hb
  | false =>
    rw [c] at hb
    exact rXfrrlrrr_st h hb
theorem rXfrrlr_st {N : Int} {K : Nat → Nat} {n : Nat} {k : Nat} {vs : List jv} {j : Nat} {σ σ' : Nat → jcell} (h : ∀ a, a < n → ∀ q ∈ rm_dep.getD k [], q.1 = K a → aSm vs q (σ a) (σ' a)) (hb : rXfrrlr N K n k (vs.take j) σ) : rXfrrlr N K n k (vs.take j) σ' := by
  unfold rXfrrlr at hb ⊢
  cases c : Nat.ble k 389 with
  | true =>
    rw [c] at hb
    exact rXfrrlrl_st h hb
  | false =>
    rw [c] at hb
    exact rXfrrlrr_st h hb
theorem rXfrrl_st {N : Int} {K : Nat → Nat} {n : Nat} {k : Nat} {vs : List jv} {j : Nat} {σ σ' : Nat → jcell} (h : ∀ a, a < n → ∀ q ∈ rm_dep.getD k [], q.1 = K a → aSm vs q (σ a) (σ' a)) (hb : rXfrrl N K n k (vs.take j) σ) : rXfrrl N K n k (vs.take j) σ' := by
  unfold rXfrrl at hb ⊢
  cases c : Nat.ble k 387 with
  | true =>
    rw [c] at hb
    exact rXfrrll_st h hb
  | false =>
    rw [c] at hb
    exact rXfrrlr_st h hb
theorem rXfrrrlll_st {N : Int} {K : Nat → Nat} {n : Nat} {k : Nat} {vs : List jv} {j : Nat} {σ σ' : Nat → jcell} (h : ∀ a, a < n → ∀ q ∈ rm_dep.getD k [], q.1 = K a → aSm vs q (σ a) (σ' a)) (hb : rXfrrrlll N K n k (vs.take j) σ) : rXfrrrlll N K n k (vs.take j) σ' := by
  unfold rXfrrrlll at hb ⊢
  cases c : Nat.beq k 392 with
  | true =>
    rw [c] at hb
    obtain rfl := Nat.eq_of_beq_eq_true c
    exact rs_392 (N := N) h hb
  | false =>
    rw [c] at hb
    exact hb.elim
theorem rXfrrrllr_st {N : Int} {K : Nat → Nat} {n : Nat} {k : Nat} {vs : List jv} {j : Nat} {σ σ' : Nat → jcell} (h : ∀ a, a < n → ∀ q ∈ rm_dep.getD k [], q.1 = K a → aSm vs q (σ a) (σ' a)) (hb : rXfrrrllr N K n k (vs.take j) σ) : rXfrrrllr N K n k (vs.take j) σ' := by
  unfold rXfrrrllr at hb ⊢
  cases c : Nat.beq k 393 with
  | true =>
    rw [c] at hb
    obtain rfl := Nat.eq_of_beq_eq_true c
    exact rs_393 (N := N) h hb
  | false =>
    rw [c] at hb
    exact hb.elim
theorem rXfrrrll_st {N : Int} {K : Nat → Nat} {n : Nat} {k : Nat} {vs : List jv} {j : Nat} {σ σ' : Nat → jcell} (h : ∀ a, a < n → ∀ q ∈ rm_dep.getD k [], q.1 = K a → aSm vs q (σ a) (σ' a)) (hb : rXfrrrll N K n k (vs.take j) σ) : rXfrrrll N K n k (vs.take j) σ' := by
  unfold rXfrrrll at hb ⊢
  cases c : Nat.ble k 392 with
  | true =>
    rw [c] at hb
    exact rXfrrrlll_st h hb
  | false =>
    rw [c] at hb
    exact rXfrrrllr_st h hb
theorem rXfrrrlrl_st {N : Int} {K : Nat → Nat} {n : Nat} {k : Nat} {vs : List jv} {j : Nat} {σ σ' : Nat → jcell} (h : ∀ a, a < n → ∀ q ∈ rm_dep.getD k [], q.1 = K a → aSm vs q (σ a) (σ' a)) (hb : rXfrrrlrl N K n k (vs.take j) σ) : rXfrrrlrl N K n k (vs.take j) σ' := by
  unfold rXfrrrlrl at hb ⊢
  cases c : Nat.beq k 394 with
  | true =>
    rw [c] at hb
    obtain rfl := Nat.eq_of_beq_eq_true c
    exact rs_394 (N := N) h hb
  | false =>
    rw [c] at hb
    exact hb.elim
theorem rXfrrrlrr_st {N : Int} {K : Nat → Nat} {n : Nat} {k : Nat} {vs : List jv} {j : Nat} {σ σ' : Nat → jcell} (h : ∀ a, a < n → ∀ q ∈ rm_dep.getD k [], q.1 = K a → aSm vs q (σ a) (σ' a)) (hb : rXfrrrlrr N K n k (vs.take j) σ) : rXfrrrlrr N K n k (vs.take j) σ' := by
  unfold rXfrrrlrr at hb ⊢
  cases c : Nat.beq k 395 with
  | true =>
    rw [c] at hb
    obtain rfl := Nat.eq_of_beq_eq_true c
    exact rs_395 (N := N) h hb
  | false =>
    rw [c] at hb
    exact hb.elim
theorem rXfrrrlr_st {N : Int} {K : Nat → Nat} {n : Nat} {k : Nat} {vs : List jv} {j : Nat} {σ σ' : Nat → jcell} (h : ∀ a, a < n → ∀ q ∈ rm_dep.getD k [], q.1 = K a → aSm vs q (σ a) (σ' a)) (hb : rXfrrrlr N K n k (vs.take j) σ) : rXfrrrlr N K n k (vs.take j) σ' := by
  unfold rXfrrrlr at hb ⊢
  cases c : Nat.ble k 394 with
  | true =>
    rw [c] at hb
    exact rXfrrrlrl_st h hb
  | false =>
    rw [c] at hb
    exact rXfrrrlrr_st h hb
theorem rXfrrrl_st {N : Int} {K : Nat → Nat} {n : Nat} {k : Nat} {vs : List jv} {j : Nat} {σ σ' : Nat → jcell} (h : ∀ a, a < n → ∀ q ∈ rm_dep.getD k [], q.1 = K a → aSm vs q (σ a) (σ' a)) (hb : rXfrrrl N K n k (vs.take j) σ) : rXfrrrl N K n k (vs.take j) σ' := by
  unfold rXfrrrl at hb ⊢
  cases c : Nat.ble k 393 with
  | true =>
    rw [c] at hb
    exact rXfrrrll_st h hb
  | false =>
    rw [c] at hb
    exact rXfrrrlr_st h hb
theorem rXfrrrrll_st {N : Int} {K : Nat → Nat} {n : Nat} {k : Nat} {vs : List jv} {j : Nat} {σ σ' : Nat → jcell} (h : ∀ a, a < n → ∀ q ∈ rm_dep.getD k [], q.1 = K a → aSm vs q (σ a) (σ' a)) (hb : rXfrrrrll N K n k (vs.take j) σ) : rXfrrrrll N K n k (vs.take j) σ' := by
  unfold rXfrrrrll at hb ⊢
  cases c : Nat.beq k 396 with
  | true =>
    rw [c] at hb
    obtain rfl := Nat.eq_of_beq_eq_true c
    exact rs_396 (N := N) h hb
  | false =>
    rw [c] at hb
    exact hb.elim
theorem rXfrrrrlr_st {N : Int} {K : Nat → Nat} {n : Nat} {k : Nat} {vs : List jv} {j : Nat} {σ σ' : Nat → jcell} (h : ∀ a, a < n → ∀ q ∈ rm_dep.getD k [], q.1 = K a → aSm vs q (σ a) (σ' a)) (hb : rXfrrrrlr N K n k (vs.take j) σ) : rXfrrrrlr N K n k (vs.take j) σ' := by
  unfold rXfrrrrlr at hb ⊢
  cases c : Nat.beq k 397 with
  | true =>
    rw [c] at hb
    obtain rfl := Nat.eq_of_beq_eq_true c
    exact rs_397 (N := N) h hb
  | false =>
    rw [c] at hb
    exact hb.elim
theorem rXfrrrrl_st {N : Int} {K : Nat → Nat} {n : Nat} {k : Nat} {vs : List jv} {j : Nat} {σ σ' : Nat → jcell} (h : ∀ a, a < n → ∀ q ∈ rm_dep.getD k [], q.1 = K a → aSm vs q (σ a) (σ' a)) (hb : rXfrrrrl N K n k (vs.take j) σ) : rXfrrrrl N K n k (vs.take j) σ' := by
  unfold rXfrrrrl at hb ⊢
  cases c : Nat.ble k 396 with
  | true =>
    rw [c] at hb
    exact rXfrrrrll_st h hb
  | false =>
    rw [c] at hb
    exact rXfrrrrlr_st h hb
theorem rXfrrrrrl_st {N : Int} {K : Nat → Nat} {n : Nat} {k : Nat} {vs : List jv} {j : Nat} {σ σ' : Nat → jcell} (h : ∀ a, a < n → ∀ q ∈ rm_dep.getD k [], q.1 = K a → aSm vs q (σ a) (σ' a)) (hb : rXfrrrrrl N K n k (vs.take j) σ) : rXfrrrrrl N K n k (vs.take j) σ' := by
  unfold rXfrrrrrl at hb ⊢
  cases c : Nat.beq k 398 with
  | true =>
    rw [c] at hb
    obtain rfl := Nat.eq_of_beq_eq_true c
    exact rs_398 (N := N) h hb
  | false =>
    rw [c] at hb
    exact hb.elim
theorem rXfrrrrrr_st {N : Int} {K : Nat → Nat} {n : Nat} {k : Nat} {vs : List jv} {j : Nat} {σ σ' : Nat → jcell} (h : ∀ a, a < n → ∀ q ∈ rm_dep.getD k [], q.1 = K a → aSm vs q (σ a) (σ' a)) (hb : rXfrrrrrr N K n k (vs.take j) σ) : rXfrrrrrr N K n k (vs.take j) σ' := by
  unfold rXfrrrrrr at hb ⊢
  cases c : Nat.beq k 399 with
  | true =>
    rw [c] at hb
    obtain rfl := Nat.eq_of_beq_eq_true c
    exact rs_399 (N := N) h hb
  | false =>
    rw [c] at hb
    exact hb.elim
theorem rXfrrrrr_st {N : Int} {K : Nat → Nat} {n : Nat} {k : Nat} {vs : List jv} {j : Nat} {σ σ' : Nat → jcell} (h : ∀ a, a < n → ∀ q ∈ rm_dep.getD k [], q.1 = K a → aSm vs q (σ a) (σ' a)) (hb : rXfrrrrr N K n k (vs.take j) σ) : rXfrrrrr N K n k (vs.take j) σ' := by
  unfold rXfrrrrr at hb ⊢
  cases c : Nat.ble k 398 with
  | true =>
    rw [c] at hb
    exact rXfrrrrrl_st h hb
  | false =>
    rw [c] at hb
    exact rXfrrrrrr_st h hb
theorem rXfrrrr_st {N : Int} {K : Nat → Nat} {n : Nat} {k : Nat} {vs : List jv} {j : Nat} {σ σ' : Nat → jcell} (h : ∀ a, a < n → ∀ q ∈ rm_dep.getD k [], q.1 = K a → aSm vs q (σ a) (σ' a)) (hb : rXfrrrr N K n k (vs.take j) σ) : rXfrrrr N K n k (vs.take j) σ' := by
  unfold rXfrrrr at hb ⊢
  cases c : Nat.ble k 397 with
  | true =>
    rw [c] at hb
    exact rXfrrrrl_st h hb
  | false =>
    rw [c] at hb
    exact rXfrrrrr_st h hb
theorem rXfrrr_st {N : Int} {K : Nat → Nat} {n : Nat} {k : Nat} {vs : List jv} {j : Nat} {σ σ' : Nat → jcell} (h : ∀ a, a < n → ∀ q ∈ rm_dep.getD k [], q.1 = K a → aSm vs q (σ a) (σ' a)) (hb : rXfrrr N K n k (vs.take j) σ) : rXfrrr N K n k (vs.take j) σ' := by
  unfold rXfrrr at hb ⊢
  cases c : Nat.ble k 395 with
  | true =>
    rw [c] at hb
    exact rXfrrrl_st h hb
  | false =>
    rw [c] at hb
    exact rXfrrrr_st h hb
theorem rXfrr_st {N : Int} {K : Nat → Nat} {n : Nat} {k : Nat} {vs : List jv} {j : Nat} {σ σ' : Nat → jcell} (h : ∀ a, a < n → ∀ q ∈ rm_dep.getD k [], q.1 = K a → aSm vs q (σ a) (σ' a)) (hb : rXfrr N K n k (vs.take j) σ) : rXfrr N K n k (vs.take j) σ' := by
  unfold rXfrr at hb ⊢
  cases c : Nat.ble k 391 with
  | true =>
    rw [c] at hb
    exact rXfrrl_st h hb
  | false =>
    rw [c] at hb
    exact rXfrrr_st h hb
theorem rXfr_st {N : Int} {K : Nat → Nat} {n : Nat} {k : Nat} {vs : List jv} {j : Nat} {σ σ' : Nat → jcell} (h : ∀ a, a < n → ∀ q ∈ rm_dep.getD k [], q.1 = K a → aSm vs q (σ a) (σ' a)) (hb : rXfr N K n k (vs.take j) σ) : rXfr N K n k (vs.take j) σ' := by
  unfold rXfr at hb ⊢
  cases c : Nat.ble k 384 with
  | true =>
    rw [c] at hb
    exact rXfrl_st h hb
  | false =>
    rw [c] at hb
    exact rXfrr_st h hb
theorem rXf_st {N : Int} {K : Nat → Nat} {n : Nat} {k : Nat} {vs : List jv} {j : Nat} {σ σ' : Nat → jcell} (h : ∀ a, a < n → ∀ q ∈ rm_dep.getD k [], q.1 = K a → aSm vs q (σ a) (σ' a)) (hb : rXf N K n k (vs.take j) σ) : rXf N K n k (vs.take j) σ' := by
  unfold rXf at hb ⊢
  cases c : Nat.ble k 370 with
  | true =>
    rw [c] at hb
    exact rXfl_st h hb
  | false =>
    rw [c] at hb
    exact rXfr_st h hb
theorem rXglllll_st {N : Int} {K : Nat → Nat} {n : Nat} {p : rP} {k : Nat} {vs : List jv} {j : Nat} {σ σ' : Nat → jcell} (h : ∀ a, a < n → ∀ q ∈ rm_dep.getD k [], q.1 = K a → aSm vs q (σ a) (σ' a)) (hb : rXglllll N K n p k (vs.take j) σ) : rXglllll N K n p k (vs.take j) σ' := by
  unfold rXglllll at hb ⊢
  cases c : Nat.beq k 450 with
  | true =>
    rw [c] at hb
    obtain rfl := Nat.eq_of_beq_eq_true c
    exact rs_450 (N := N) (p := p) h hb
  | false =>
    rw [c] at hb
    exact hb.elim
theorem rXgllllr_st {N : Int} {K : Nat → Nat} {n : Nat} {p : rP} {k : Nat} {vs : List jv} {j : Nat} {σ σ' : Nat → jcell} (h : ∀ a, a < n → ∀ q ∈ rm_dep.getD k [], q.1 = K a → aSm vs q (σ a) (σ' a)) (hb : rXgllllr N K n p k (vs.take j) σ) : rXgllllr N K n p k (vs.take j) σ' := by
  unfold rXgllllr at hb ⊢
  cases c : Nat.beq k 451 with
  | true =>
    rw [c] at hb
    obtain rfl := Nat.eq_of_beq_eq_true c
    exact rs_451 (N := N) (p := p) h hb
  | false =>
    rw [c] at hb
    exact hb.elim
theorem rXgllll_st {N : Int} {K : Nat → Nat} {n : Nat} {p : rP} {k : Nat} {vs : List jv} {j : Nat} {σ σ' : Nat → jcell} (h : ∀ a, a < n → ∀ q ∈ rm_dep.getD k [], q.1 = K a → aSm vs q (σ a) (σ' a)) (hb : rXgllll N K n p k (vs.take j) σ) : rXgllll N K n p k (vs.take j) σ' := by
  unfold rXgllll at hb ⊢
  cases c : Nat.ble k 450 with
  | true =>
    rw [c] at hb
    exact rXglllll_st h hb
  | false =>
    rw [c] at hb
    exact rXgllllr_st h hb
theorem rXglllrl_st {N : Int} {K : Nat → Nat} {n : Nat} {p : rP} {k : Nat} {vs : List jv} {j : Nat} {σ σ' : Nat → jcell} (h : ∀ a, a < n → ∀ q ∈ rm_dep.getD k [], q.1 = K a → aSm vs q (σ a) (σ' a)) (hb : rXglllrl N K n p k (vs.take j) σ) : rXglllrl N K n p k (vs.take j) σ' := by
  unfold rXglllrl at hb ⊢
  cases c : Nat.beq k 452 with
  | true =>
    rw [c] at hb
    obtain rfl := Nat.eq_of_beq_eq_true c
    exact rs_452 (N := N) (p := p) h hb
  | false =>
    rw [c] at hb
    exact hb.elim
theorem rXglllrrl_st {N : Int} {K : Nat → Nat} {n : Nat} {p : rP} {k : Nat} {vs : List jv} {j : Nat} {σ σ' : Nat → jcell} (h : ∀ a, a < n → ∀ q ∈ rm_dep.getD k [], q.1 = K a → aSm vs q (σ a) (σ' a)) (hb : rXglllrrl N K n p k (vs.take j) σ) : rXglllrrl N K n p k (vs.take j) σ' := by
  unfold rXglllrrl at hb ⊢
  cases c : Nat.beq k 453 with
  | true =>
    rw [c] at hb
    obtain rfl := Nat.eq_of_beq_eq_true c
    exact rs_453 (N := N) (p := p) h hb
  | false =>
    rw [c] at hb
    exact hb.elim
theorem rXglllrrr_st {N : Int} {K : Nat → Nat} {n : Nat} {p : rP} {k : Nat} {vs : List jv} {j : Nat} {σ σ' : Nat → jcell} (h : ∀ a, a < n → ∀ q ∈ rm_dep.getD k [], q.1 = K a → aSm vs q (σ a) (σ' a)) (hb : rXglllrrr N K n p k (vs.take j) σ) : rXglllrrr N K n p k (vs.take j) σ' := by
  unfold rXglllrrr at hb ⊢
  cases c : Nat.beq k 454 with
  | true =>
    rw [c] at hb
    obtain rfl := Nat.eq_of_beq_eq_true c
    exact rs_454 (N := N) (p := p) h hb
  | false =>
    rw [c] at hb
    exact hb.elim
theorem rXglllrr_st {N : Int} {K : Nat → Nat} {n : Nat} {p : rP} {k : Nat} {vs : List jv} {j : Nat} {σ σ' : Nat → jcell} (h : ∀ a, a < n → ∀ q ∈ rm_dep.getD k [], q.1 = K a → aSm vs q (σ a) (σ' a)) (hb : rXglllrr N K n p k (vs.take j) σ) : rXglllrr N K n p k (vs.take j) σ' := by
  unfold rXglllrr at hb ⊢
  cases c : Nat.ble k 453 with
  | true =>
    rw [c] at hb
    exact rXglllrrl_st h hb
  | false =>
    rw [c] at hb
    exact rXglllrrr_st h hb
theorem rXglllr_st {N : Int} {K : Nat → Nat} {n : Nat} {p : rP} {k : Nat} {vs : List jv} {j : Nat} {σ σ' : Nat → jcell} (h : ∀ a, a < n → ∀ q ∈ rm_dep.getD k [], q.1 = K a → aSm vs q (σ a) (σ' a)) (hb : rXglllr N K n p k (vs.take j) σ) : rXglllr N K n p k (vs.take j) σ' := by
  unfold rXglllr at hb ⊢
  cases c : Nat.ble k 452 with
  | true =>
    rw [c] at hb
    exact rXglllrl_st h hb
  | false =>
    rw [c] at hb
    exact rXglllrr_st h hb
theorem rXglll_st {N : Int} {K : Nat → Nat} {n : Nat} {p : rP} {k : Nat} {vs : List jv} {j : Nat} {σ σ' : Nat → jcell} (h : ∀ a, a < n → ∀ q ∈ rm_dep.getD k [], q.1 = K a → aSm vs q (σ a) (σ' a)) (hb : rXglll N K n p k (vs.take j) σ) : rXglll N K n p k (vs.take j) σ' := by
  unfold rXglll at hb ⊢
  cases c : Nat.ble k 451 with
  | true =>
    rw [c] at hb
    exact rXgllll_st h hb
  | false =>
    rw [c] at hb
    exact rXglllr_st h hb
theorem rXgllrll_st {N : Int} {K : Nat → Nat} {n : Nat} {p : rP} {k : Nat} {vs : List jv} {j : Nat} {σ σ' : Nat → jcell} (h : ∀ a, a < n → ∀ q ∈ rm_dep.getD k [], q.1 = K a → aSm vs q (σ a) (σ' a)) (hb : rXgllrll N K n p k (vs.take j) σ) : rXgllrll N K n p k (vs.take j) σ' := by
  unfold rXgllrll at hb ⊢
  cases c : Nat.beq k 455 with
  | true =>
    rw [c] at hb
    obtain rfl := Nat.eq_of_beq_eq_true c
    exact rs_455 (N := N) (p := p) h hb
  | false =>
    rw [c] at hb
    exact hb.elim
theorem rXgllrlrl_st {N : Int} {K : Nat → Nat} {n : Nat} {p : rP} {k : Nat} {vs : List jv} {j : Nat} {σ σ' : Nat → jcell} (h : ∀ a, a < n → ∀ q ∈ rm_dep.getD k [], q.1 = K a → aSm vs q (σ a) (σ' a)) (hb : rXgllrlrl N K n p k (vs.take j) σ) : rXgllrlrl N K n p k (vs.take j) σ' := by
  unfold rXgllrlrl at hb ⊢
  cases c : Nat.beq k 456 with
  | true =>
    rw [c] at hb
    obtain rfl := Nat.eq_of_beq_eq_true c
    exact rs_456 (N := N) (p := p) h hb
  | false =>
    rw [c] at hb
    exact hb.elim
theorem rXgllrlrr_st {N : Int} {K : Nat → Nat} {n : Nat} {p : rP} {k : Nat} {vs : List jv} {j : Nat} {σ σ' : Nat → jcell} (h : ∀ a, a < n → ∀ q ∈ rm_dep.getD k [], q.1 = K a → aSm vs q (σ a) (σ' a)) (hb : rXgllrlrr N K n p k (vs.take j) σ) : rXgllrlrr N K n p k (vs.take j) σ' := by
  unfold rXgllrlrr at hb ⊢
  cases c : Nat.beq k 457 with
  | true =>
    rw [c] at hb
    obtain rfl := Nat.eq_of_beq_eq_true c
    exact rs_457 (N := N) (p := p) h hb
  | false =>
    rw [c] at hb
    exact hb.elim
theorem rXgllrlr_st {N : Int} {K : Nat → Nat} {n : Nat} {p : rP} {k : Nat} {vs : List jv} {j : Nat} {σ σ' : Nat → jcell} (h : ∀ a, a < n → ∀ q ∈ rm_dep.getD k [], q.1 = K a → aSm vs q (σ a) (σ' a)) (hb : rXgllrlr N K n p k (vs.take j) σ) : rXgllrlr N K n p k (vs.take j) σ' := by
  unfold rXgllrlr at hb ⊢
  cases c : Nat.ble k 456 with
  | true =>
    rw [c] at hb
    exact rXgllrlrl_st h hb
  | false =>
    rw [c] at hb
    exact rXgllrlrr_st h hb
theorem rXgllrl_st {N : Int} {K : Nat → Nat} {n : Nat} {p : rP} {k : Nat} {vs : List jv} {j : Nat} {σ σ' : Nat → jcell} (h : ∀ a, a < n → ∀ q ∈ rm_dep.getD k [], q.1 = K a → aSm vs q (σ a) (σ' a)) (hb : rXgllrl N K n p k (vs.take j) σ) : rXgllrl N K n p k (vs.take j) σ' := by
  unfold rXgllrl at hb ⊢
  cases c : Nat.ble k 455 with
  | true =>
    rw [c] at hb
    exact rXgllrll_st h hb
  | false =>
    rw [c] at hb
    exact rXgllrlr_st h hb
theorem rXgllrrl_st {N : Int} {K : Nat → Nat} {n : Nat} {p : rP} {k : Nat} {vs : List jv} {j : Nat} {σ σ' : Nat → jcell} (h : ∀ a, a < n → ∀ q ∈ rm_dep.getD k [], q.1 = K a → aSm vs q (σ a) (σ' a)) (hb : rXgllrrl N K n p k (vs.take j) σ) : rXgllrrl N K n p k (vs.take j) σ' := by
  unfold rXgllrrl at hb ⊢
  cases c : Nat.beq k 458 with
  | true =>
    rw [c] at hb
    obtain rfl := Nat.eq_of_beq_eq_true c
    exact rs_458 (N := N) (p := p) h hb
  | false =>
    rw [c] at hb
    exact hb.elim
theorem rXgllrrrl_st {N : Int} {K : Nat → Nat} {n : Nat} {p : rP} {k : Nat} {vs : List jv} {j : Nat} {σ σ' : Nat → jcell} (h : ∀ a, a < n → ∀ q ∈ rm_dep.getD k [], q.1 = K a → aSm vs q (σ a) (σ' a)) (hb : rXgllrrrl N K n p k (vs.take j) σ) : rXgllrrrl N K n p k (vs.take j) σ' := by
  unfold rXgllrrrl at hb ⊢
  cases c : Nat.beq k 459 with
  | true =>
    rw [c] at hb
    obtain rfl := Nat.eq_of_beq_eq_true c
    exact rs_459 (N := N) (p := p) h hb
  | false =>
    rw [c] at hb
    exact hb.elim
theorem rXgllrrrr_st {N : Int} {K : Nat → Nat} {n : Nat} {p : rP} {k : Nat} {vs : List jv} {j : Nat} {σ σ' : Nat → jcell} (h : ∀ a, a < n → ∀ q ∈ rm_dep.getD k [], q.1 = K a → aSm vs q (σ a) (σ' a)) (hb : rXgllrrrr N K n p k (vs.take j) σ) : rXgllrrrr N K n p k (vs.take j) σ' := by
  unfold rXgllrrrr at hb ⊢
  cases c : Nat.beq k 460 with
  | true =>
    rw [c] at hb
    obtain rfl := Nat.eq_of_beq_eq_true c
    exact rs_460 (N := N) (p := p) h hb
  | false =>
    rw [c] at hb
    exact hb.elim
theorem rXgllrrr_st {N : Int} {K : Nat → Nat} {n : Nat} {p : rP} {k : Nat} {vs : List jv} {j : Nat} {σ σ' : Nat → jcell} (h : ∀ a, a < n → ∀ q ∈ rm_dep.getD k [], q.1 = K a → aSm vs q (σ a) (σ' a)) (hb : rXgllrrr N K n p k (vs.take j) σ) : rXgllrrr N K n p k (vs.take j) σ' := by
  unfold rXgllrrr at hb ⊢
  cases c : Nat.ble k 459 with
  | true =>
    rw [c] at hb
    exact rXgllrrrl_st h hb
  | false =>
    rw [c] at hb
    exact rXgllrrrr_st h hb
theorem rXgllrr_st {N : Int} {K : Nat → Nat} {n : Nat} {p : rP} {k : Nat} {vs : List jv} {j : Nat} {σ σ' : Nat → jcell} (h : ∀ a, a < n → ∀ q ∈ rm_dep.getD k [], q.1 = K a → aSm vs q (σ a) (σ' a)) (hb : rXgllrr N K n p k (vs.take j) σ) : rXgllrr N K n p k (vs.take j) σ' := by
  unfold rXgllrr at hb ⊢
  cases c : Nat.ble k 458 with
  | true =>
    rw [c] at hb
    exact rXgllrrl_st h hb
  | false =>
    rw [c] at hb
    exact rXgllrrr_st h hb
theorem rXgllr_st {N : Int} {K : Nat → Nat} {n : Nat} {p : rP} {k : Nat} {vs : List jv} {j : Nat} {σ σ' : Nat → jcell} (h : ∀ a, a < n → ∀ q ∈ rm_dep.getD k [], q.1 = K a → aSm vs q (σ a) (σ' a)) (hb : rXgllr N K n p k (vs.take j) σ) : rXgllr N K n p k (vs.take j) σ' := by
  unfold rXgllr at hb ⊢
  cases c : Nat.ble k 457 with
  | true =>
    rw [c] at hb
    exact rXgllrl_st h hb
  | false =>
    rw [c] at hb
    exact rXgllrr_st h hb
theorem rXgll_st {N : Int} {K : Nat → Nat} {n : Nat} {p : rP} {k : Nat} {vs : List jv} {j : Nat} {σ σ' : Nat → jcell} (h : ∀ a, a < n → ∀ q ∈ rm_dep.getD k [], q.1 = K a → aSm vs q (σ a) (σ' a)) (hb : rXgll N K n p k (vs.take j) σ) : rXgll N K n p k (vs.take j) σ' := by
  unfold rXgll at hb ⊢
  cases c : Nat.ble k 454 with
  | true =>
    rw [c] at hb
    exact rXglll_st h hb
  | false =>
    rw [c] at hb
    exact rXgllr_st h hb
theorem rXglrlll_st {N : Int} {K : Nat → Nat} {n : Nat} {p : rP} {k : Nat} {vs : List jv} {j : Nat} {σ σ' : Nat → jcell} (h : ∀ a, a < n → ∀ q ∈ rm_dep.getD k [], q.1 = K a → aSm vs q (σ a) (σ' a)) (hb : rXglrlll N K n p k (vs.take j) σ) : rXglrlll N K n p k (vs.take j) σ' := by
  unfold rXglrlll at hb ⊢
  cases c : Nat.beq k 461 with
  | true =>
    rw [c] at hb
    obtain rfl := Nat.eq_of_beq_eq_true c
    exact rs_461 (N := N) (p := p) h hb
  | false =>
    rw [c] at hb
    exact hb.elim
theorem rXglrllrl_st {N : Int} {K : Nat → Nat} {n : Nat} {p : rP} {k : Nat} {vs : List jv} {j : Nat} {σ σ' : Nat → jcell} (h : ∀ a, a < n → ∀ q ∈ rm_dep.getD k [], q.1 = K a → aSm vs q (σ a) (σ' a)) (hb : rXglrllrl N K n p k (vs.take j) σ) : rXglrllrl N K n p k (vs.take j) σ' := by
  unfold rXglrllrl at hb ⊢
  cases c : Nat.beq k 462 with
  | true =>
    rw [c] at hb
    obtain rfl := Nat.eq_of_beq_eq_true c
    exact rs_462 (N := N) (p := p) h hb
  | false =>
    rw [c] at hb
    exact hb.elim
theorem rXglrllrr_st {N : Int} {K : Nat → Nat} {n : Nat} {p : rP} {k : Nat} {vs : List jv} {j : Nat} {σ σ' : Nat → jcell} (h : ∀ a, a < n → ∀ q ∈ rm_dep.getD k [], q.1 = K a → aSm vs q (σ a) (σ' a)) (hb : rXglrllrr N K n p k (vs.take j) σ) : rXglrllrr N K n p k (vs.take j) σ' := by
  unfold rXglrllrr at hb ⊢
  cases c : Nat.beq k 463 with
  | true =>
    rw [c] at hb
    obtain rfl := Nat.eq_of_beq_eq_true c
    exact rs_463 (N := N) (p := p) h hb
  | false =>
    rw [c] at hb
    exact hb.elim
theorem rXglrllr_st {N : Int} {K : Nat → Nat} {n : Nat} {p : rP} {k : Nat} {vs : List jv} {j : Nat} {σ σ' : Nat → jcell} (h : ∀ a, a < n → ∀ q ∈ rm_dep.getD k [], q.1 = K a → aSm vs q (σ a) (σ' a)) (hb : rXglrllr N K n p k (vs.take j) σ) : rXglrllr N K n p k (vs.take j) σ' := by
  unfold rXglrllr at hb ⊢
  cases c : Nat.ble k 462 with
  | true =>
    rw [c] at hb
    exact rXglrllrl_st h hb
  | false =>
    rw [c] at hb
    exact rXglrllrr_st h hb
theorem rXglrll_st {N : Int} {K : Nat → Nat} {n : Nat} {p : rP} {k : Nat} {vs : List jv} {j : Nat} {σ σ' : Nat → jcell} (h : ∀ a, a < n → ∀ q ∈ rm_dep.getD k [], q.1 = K a → aSm vs q (σ a) (σ' a)) (hb : rXglrll N K n p k (vs.take j) σ) : rXglrll N K n p k (vs.take j) σ' := by
  unfold rXglrll at hb ⊢
  cases c : Nat.ble k 461 with
  | true =>
    rw [c] at hb
    exact rXglrlll_st h hb
  | false =>
    rw [c] at hb
    exact rXglrllr_st h hb
theorem rXglrlrl_st {N : Int} {K : Nat → Nat} {n : Nat} {p : rP} {k : Nat} {vs : List jv} {j : Nat} {σ σ' : Nat → jcell} (h : ∀ a, a < n → ∀ q ∈ rm_dep.getD k [], q.1 = K a → aSm vs q (σ a) (σ' a)) (hb : rXglrlrl N K n p k (vs.take j) σ) : rXglrlrl N K n p k (vs.take j) σ' := by
  unfold rXglrlrl at hb ⊢
  cases c : Nat.beq k 464 with
  | true =>
    rw [c] at hb
    obtain rfl := Nat.eq_of_beq_eq_true c
    exact rs_464 (N := N) (p := p) h hb
  | false =>
    rw [c] at hb
    exact hb.elim
theorem rXglrlrrl_st {N : Int} {K : Nat → Nat} {n : Nat} {p : rP} {k : Nat} {vs : List jv} {j : Nat} {σ σ' : Nat → jcell} (h : ∀ a, a < n → ∀ q ∈ rm_dep.getD k [], q.1 = K a → aSm vs q (σ a) (σ' a)) (hb : rXglrlrrl N K n p k (vs.take j) σ) : rXglrlrrl N K n p k (vs.take j) σ' := by
  unfold rXglrlrrl at hb ⊢
  cases c : Nat.beq k 465 with
  | true =>
    rw [c] at hb
    obtain rfl := Nat.eq_of_beq_eq_true c
    exact rs_465 (N := N) (p := p) h hb
  | false =>
    rw [c] at hb
    exact hb.elim
theorem rXglrlrrr_st {N : Int} {K : Nat → Nat} {n : Nat} {p : rP} {k : Nat} {vs : List jv} {j : Nat} {σ σ' : Nat → jcell} (h : ∀ a, a < n → ∀ q ∈ rm_dep.getD k [], q.1 = K a → aSm vs q (σ a) (σ' a)) (hb : rXglrlrrr N K n p k (vs.take j) σ) : rXglrlrrr N K n p k (vs.take j) σ' := by
  unfold rXglrlrrr at hb ⊢
  cases c : Nat.beq k 466 with
  | true =>
    rw [c] at hb
    obtain rfl := Nat.eq_of_beq_eq_true c
    exact rs_466 (N := N) (p := p) h hb
  | false =>
    rw [c] at hb
    exact hb.elim
theorem rXglrlrr_st {N : Int} {K : Nat → Nat} {n : Nat} {p : rP} {k : Nat} {vs : List jv} {j : Nat} {σ σ' : Nat → jcell} (h : ∀ a, a < n → ∀ q ∈ rm_dep.getD k [], q.1 = K a → aSm vs q (σ a) (σ' a)) (hb : rXglrlrr N K n p k (vs.take j) σ) : rXglrlrr N K n p k (vs.take j) σ' := by
  unfold rXglrlrr at hb ⊢
  cases c : Nat.ble k 465 with
  | true =>
    rw [c] at hb
    exact rXglrlrrl_st h hb
  | false =>
    rw [c] at hb
    exact rXglrlrrr_st h hb
theorem rXglrlr_st {N : Int} {K : Nat → Nat} {n : Nat} {p : rP} {k : Nat} {vs : List jv} {j : Nat} {σ σ' : Nat → jcell} (h : ∀ a, a < n → ∀ q ∈ rm_dep.getD k [], q.1 = K a → aSm vs q (σ a) (σ' a)) (hb : rXglrlr N K n p k (vs.take j) σ) : rXglrlr N K n p k (vs.take j) σ' := by
  unfold rXglrlr at hb ⊢
  cases c : Nat.ble k 464 with
  | true =>
    rw [c] at hb
    exact rXglrlrl_st h hb
  | false =>
    rw [c] at hb
    exact rXglrlrr_st h hb
theorem rXglrl_st {N : Int} {K : Nat → Nat} {n : Nat} {p : rP} {k : Nat} {vs : List jv} {j : Nat} {σ σ' : Nat → jcell} (h : ∀ a, a < n → ∀ q ∈ rm_dep.getD k [], q.1 = K a → aSm vs q (σ a) (σ' a)) (hb : rXglrl N K n p k (vs.take j) σ) : rXglrl N K n p k (vs.take j) σ' := by
  unfold rXglrl at hb ⊢
  cases c : Nat.ble k 463 with
  | true =>
    rw [c] at hb
    exact rXglrll_st h hb
  | false =>
    rw [c] at hb
    exact rXglrlr_st h hb
theorem rXglrrll_st {N : Int} {K : Nat → Nat} {n : Nat} {p : rP} {k : Nat} {vs : List jv} {j : Nat} {σ σ' : Nat → jcell} (h : ∀ a, a < n → ∀ q ∈ rm_dep.getD k [], q.1 = K a → aSm vs q (σ a) (σ' a)) (hb : rXglrrll N K n p k (vs.take j) σ) : rXglrrll N K n p k (vs.take j) σ' := by
  unfold rXglrrll at hb ⊢
  cases c : Nat.beq k 468 with
  | true =>
    rw [c] at hb
    obtain rfl := Nat.eq_of_beq_eq_true c
    exact rs_468 (N := N) (p := p) h hb
  | false =>
    rw [c] at hb
    exact hb.elim
theorem rXglrrlrl_st {N : Int} {K : Nat → Nat} {n : Nat} {p : rP} {k : Nat} {vs : List jv} {j : Nat} {σ σ' : Nat → jcell} (h : ∀ a, a < n → ∀ q ∈ rm_dep.getD k [], q.1 = K a → aSm vs q (σ a) (σ' a)) (hb : rXglrrlrl N K n p k (vs.take j) σ) : rXglrrlrl N K n p k (vs.take j) σ' := by
  unfold rXglrrlrl at hb ⊢
  cases c : Nat.beq k 469 with
  | true =>
    rw [c] at hb
    obtain rfl := Nat.eq_of_beq_eq_true c
    exact rs_469 (N := N) (p := p) h hb
  | false =>
    rw [c] at hb
    exact hb.elim
theorem rXglrrlrr_st {N : Int} {K : Nat → Nat} {n : Nat} {p : rP} {k : Nat} {vs : List jv} {j : Nat} {σ σ' : Nat → jcell} (h : ∀ a, a < n → ∀ q ∈ rm_dep.getD k [], q.1 = K a → aSm vs q (σ a) (σ' a)) (hb : rXglrrlrr N K n p k (vs.take j) σ) : rXglrrlrr N K n p k (vs.take j) σ' := by
  unfold rXglrrlrr at hb ⊢
  cases c : Nat.beq k 470 with
  | true =>
    rw [c] at hb
    obtain rfl := Nat.eq_of_beq_eq_true c
    exact rs_470 (N := N) (p := p) h hb
  | false =>
    rw [c] at hb
    exact hb.elim
theorem rXglrrlr_st {N : Int} {K : Nat → Nat} {n : Nat} {p : rP} {k : Nat} {vs : List jv} {j : Nat} {σ σ' : Nat → jcell} (h : ∀ a, a < n → ∀ q ∈ rm_dep.getD k [], q.1 = K a → aSm vs q (σ a) (σ' a)) (hb : rXglrrlr N K n p k (vs.take j) σ) : rXglrrlr N K n p k (vs.take j) σ' := by
  unfold rXglrrlr at hb ⊢
  cases c : Nat.ble k 469 with
  | true =>
    rw [c] at hb
    exact rXglrrlrl_st h hb
  | false =>
    rw [c] at hb
    exact rXglrrlrr_st h hb
theorem rXglrrl_st {N : Int} {K : Nat → Nat} {n : Nat} {p : rP} {k : Nat} {vs : List jv} {j : Nat} {σ σ' : Nat → jcell} (h : ∀ a, a < n → ∀ q ∈ rm_dep.getD k [], q.1 = K a → aSm vs q (σ a) (σ' a)) (hb : rXglrrl N K n p k (vs.take j) σ) : rXglrrl N K n p k (vs.take j) σ' := by
  unfold rXglrrl at hb ⊢
  cases c : Nat.ble k 468 with
  | true =>
    rw [c] at hb
    exact rXglrrll_st h hb
  | false =>
    rw [c] at hb
    exact rXglrrlr_st h hb
theorem rXglrrrl_st {N : Int} {K : Nat → Nat} {n : Nat} {p : rP} {k : Nat} {vs : List jv} {j : Nat} {σ σ' : Nat → jcell} (h : ∀ a, a < n → ∀ q ∈ rm_dep.getD k [], q.1 = K a → aSm vs q (σ a) (σ' a)) (hb : rXglrrrl N K n p k (vs.take j) σ) : rXglrrrl N K n p k (vs.take j) σ' := by
  unfold rXglrrrl at hb ⊢
  cases c : Nat.beq k 471 with
  | true =>
    rw [c] at hb
    obtain rfl := Nat.eq_of_beq_eq_true c
    exact rs_471 (N := N) (p := p) h hb
  | false =>
    rw [c] at hb
    exact hb.elim
theorem rXglrrrrl_st {N : Int} {K : Nat → Nat} {n : Nat} {p : rP} {k : Nat} {vs : List jv} {j : Nat} {σ σ' : Nat → jcell} (h : ∀ a, a < n → ∀ q ∈ rm_dep.getD k [], q.1 = K a → aSm vs q (σ a) (σ' a)) (hb : rXglrrrrl N K n p k (vs.take j) σ) : rXglrrrrl N K n p k (vs.take j) σ' := by
  unfold rXglrrrrl at hb ⊢
  cases c : Nat.beq k 472 with
  | true =>
    rw [c] at hb
    obtain rfl := Nat.eq_of_beq_eq_true c
    exact rs_472 (N := N) (p := p) h hb
  | false =>
    rw [c] at hb
    exact hb.elim
theorem rXglrrrrr_st {N : Int} {K : Nat → Nat} {n : Nat} {p : rP} {k : Nat} {vs : List jv} {j : Nat} {σ σ' : Nat → jcell} (h : ∀ a, a < n → ∀ q ∈ rm_dep.getD k [], q.1 = K a → aSm vs q (σ a) (σ' a)) (hb : rXglrrrrr N K n p k (vs.take j) σ) : rXglrrrrr N K n p k (vs.take j) σ' := by
  unfold rXglrrrrr at hb ⊢
  cases c : Nat.beq k 473 with
  | true =>
    rw [c] at hb
    obtain rfl := Nat.eq_of_beq_eq_true c
    exact rs_473 (N := N) (p := p) h hb
  | false =>
    rw [c] at hb
    exact hb.elim
theorem rXglrrrr_st {N : Int} {K : Nat → Nat} {n : Nat} {p : rP} {k : Nat} {vs : List jv} {j : Nat} {σ σ' : Nat → jcell} (h : ∀ a, a < n → ∀ q ∈ rm_dep.getD k [], q.1 = K a → aSm vs q (σ a) (σ' a)) (hb : rXglrrrr N K n p k (vs.take j) σ) : rXglrrrr N K n p k (vs.take j) σ' := by
  unfold rXglrrrr at hb ⊢
  cases c : Nat.ble k 472 with
  | true =>
    rw [c] at hb
    exact rXglrrrrl_st h hb
  | false =>
    rw [c] at hb
    exact rXglrrrrr_st h hb
theorem rXglrrr_st {N : Int} {K : Nat → Nat} {n : Nat} {p : rP} {k : Nat} {vs : List jv} {j : Nat} {σ σ' : Nat → jcell} (h : ∀ a, a < n → ∀ q ∈ rm_dep.getD k [], q.1 = K a → aSm vs q (σ a) (σ' a)) (hb : rXglrrr N K n p k (vs.take j) σ) : rXglrrr N K n p k (vs.take j) σ' := by
  unfold rXglrrr at hb ⊢
  cases c : Nat.ble k 471 with
  | true =>
    rw [c] at hb
    exact rXglrrrl_st h hb
  | false =>
    rw [c] at hb
    exact rXglrrrr_st h hb
theorem rXglrr_st {N : Int} {K : Nat → Nat} {n : Nat} {p : rP} {k : Nat} {vs : List jv} {j : Nat} {σ σ' : Nat → jcell} (h : ∀ a, a < n → ∀ q ∈ rm_dep.getD k [], q.1 = K a → aSm vs q (σ a) (σ' a)) (hb : rXglrr N K n p k (vs.take j) σ) : rXglrr N K n p k (vs.take j) σ' := by
  unfold rXglrr at hb ⊢
  cases c : Nat.ble k 470 with
  | true =>
    rw [c] at hb
    exact rXglrrl_st h hb
  | false =>
    rw [c] at hb
    exact rXglrrr_st h hb
theorem rXglr_st {N : Int} {K : Nat → Nat} {n : Nat} {p : rP} {k : Nat} {vs : List jv} {j : Nat} {σ σ' : Nat → jcell} (h : ∀ a, a < n → ∀ q ∈ rm_dep.getD k [], q.1 = K a → aSm vs q (σ a) (σ' a)) (hb : rXglr N K n p k (vs.take j) σ) : rXglr N K n p k (vs.take j) σ' := by
  unfold rXglr at hb ⊢
  cases c : Nat.ble k 466 with
  | true =>
    rw [c] at hb
    exact rXglrl_st h hb
  | false =>
    rw [c] at hb
    exact rXglrr_st h hb
theorem rXgl_st {N : Int} {K : Nat → Nat} {n : Nat} {p : rP} {k : Nat} {vs : List jv} {j : Nat} {σ σ' : Nat → jcell} (h : ∀ a, a < n → ∀ q ∈ rm_dep.getD k [], q.1 = K a → aSm vs q (σ a) (σ' a)) (hb : rXgl N K n p k (vs.take j) σ) : rXgl N K n p k (vs.take j) σ' := by
  unfold rXgl at hb ⊢
  cases c : Nat.ble k 460 with
  | true =>
    rw [c] at hb
    exact rXgll_st h hb
  | false =>
    rw [c] at hb
    exact rXglr_st h hb
theorem rXgrllll_st {N : Int} {K : Nat → Nat} {n : Nat} {p : rP} {k : Nat} {vs : List jv} {j : Nat} {σ σ' : Nat → jcell} (h : ∀ a, a < n → ∀ q ∈ rm_dep.getD k [], q.1 = K a → aSm vs q (σ a) (σ' a)) (hb : rXgrllll N K n p k (vs.take j) σ) : rXgrllll N K n p k (vs.take j) σ' := by
  unfold rXgrllll at hb ⊢
  cases c : Nat.beq k 474 with
  | true =>
    rw [c] at hb
    obtain rfl := Nat.eq_of_beq_eq_true c
    exact rs_474 (N := N) (p := p) h hb
  | false =>
    rw [c] at hb
    exact hb.elim
theorem rXgrlllr_st {N : Int} {K : Nat → Nat} {n : Nat} {p : rP} {k : Nat} {vs : List jv} {j : Nat} {σ σ' : Nat → jcell} (h : ∀ a, a < n → ∀ q ∈ rm_dep.getD k [], q.1 = K a → aSm vs q (σ a) (σ' a)) (hb : rXgrlllr N K n p k (vs.take j) σ) : rXgrlllr N K n p k (vs.take j) σ' := by
  unfold rXgrlllr at hb ⊢
  cases c : Nat.beq k 475 with
  | true =>
    rw [c] at hb
    obtain rfl := Nat.eq_of_beq_eq_true c
    exact rs_475 (N := N) (p := p) h hb
  | false =>
    rw [c] at hb
    exact hb.elim
theorem rXgrlll_st {N : Int} {K : Nat → Nat} {n : Nat} {p : rP} {k : Nat} {vs : List jv} {j : Nat} {σ σ' : Nat → jcell} (h : ∀ a, a < n → ∀ q ∈ rm_dep.getD k [], q.1 = K a → aSm vs q (σ a) (σ' a)) (hb : rXgrlll N K n p k (vs.take j) σ) : rXgrlll N K n p k (vs.take j) σ' := by
  unfold rXgrlll at hb ⊢
  cases c : Nat.ble k 474 with
  | true =>
    rw [c] at hb
    exact rXgrllll_st h hb
  | false =>
    rw [c] at hb
    exact rXgrlllr_st h hb
theorem rXgrllrl_st {N : Int} {K : Nat → Nat} {n : Nat} {p : rP} {k : Nat} {vs : List jv} {j : Nat} {σ σ' : Nat → jcell} (h : ∀ a, a < n → ∀ q ∈ rm_dep.getD k [], q.1 = K a → aSm vs q (σ a) (σ' a)) (hb : rXgrllrl N K n p k (vs.take j) σ) : rXgrllrl N K n p k (vs.take j) σ' := by
  unfold rXgrllrl at hb ⊢
  cases c : Nat.beq k 476 with
  | true =>
    rw [c] at hb
    obtain rfl := Nat.eq_of_beq_eq_true c
    exact rs_476 (N := N) (p := p) h hb
  | false =>
    rw [c] at hb
    exact hb.elim
theorem rXgrllrrl_st {N : Int} {K : Nat → Nat} {n : Nat} {p : rP} {k : Nat} {vs : List jv} {j : Nat} {σ σ' : Nat → jcell} (h : ∀ a, a < n → ∀ q ∈ rm_dep.getD k [], q.1 = K a → aSm vs q (σ a) (σ' a)) (hb : rXgrllrrl N K n p k (vs.take j) σ) : rXgrllrrl N K n p k (vs.take j) σ' := by
  unfold rXgrllrrl at hb ⊢
  cases c : Nat.beq k 477 with
  | true =>
    rw [c] at hb
    obtain rfl := Nat.eq_of_beq_eq_true c
    exact rs_477 (N := N) (p := p) h hb
  | false =>
    rw [c] at hb
    exact hb.elim
theorem rXgrllrrr_st {N : Int} {K : Nat → Nat} {n : Nat} {p : rP} {k : Nat} {vs : List jv} {j : Nat} {σ σ' : Nat → jcell} (h : ∀ a, a < n → ∀ q ∈ rm_dep.getD k [], q.1 = K a → aSm vs q (σ a) (σ' a)) (hb : rXgrllrrr N K n p k (vs.take j) σ) : rXgrllrrr N K n p k (vs.take j) σ' := by
  unfold rXgrllrrr at hb ⊢
  cases c : Nat.beq k 478 with
  | true =>
    rw [c] at hb
    obtain rfl := Nat.eq_of_beq_eq_true c
    exact rs_478 (N := N) (p := p) h hb
  | false =>
    rw [c] at hb
    exact hb.elim
theorem rXgrllrr_st {N : Int} {K : Nat → Nat} {n : Nat} {p : rP} {k : Nat} {vs : List jv} {j : Nat} {σ σ' : Nat → jcell} (h : ∀ a, a < n → ∀ q ∈ rm_dep.getD k [], q.1 = K a → aSm vs q (σ a) (σ' a)) (hb : rXgrllrr N K n p k (vs.take j) σ) : rXgrllrr N K n p k (vs.take j) σ' := by
  unfold rXgrllrr at hb ⊢
  cases c : Nat.ble k 477 with
  | true =>
    rw [c] at hb
    exact rXgrllrrl_st h hb
  | false =>
    rw [c] at hb
    exact rXgrllrrr_st h hb
theorem rXgrllr_st {N : Int} {K : Nat → Nat} {n : Nat} {p : rP} {k : Nat} {vs : List jv} {j : Nat} {σ σ' : Nat → jcell} (h : ∀ a, a < n → ∀ q ∈ rm_dep.getD k [], q.1 = K a → aSm vs q (σ a) (σ' a)) (hb : rXgrllr N K n p k (vs.take j) σ) : rXgrllr N K n p k (vs.take j) σ' := by
  unfold rXgrllr at hb ⊢
  cases c : Nat.ble k 476 with
  | true =>
    rw [c] at hb
    exact rXgrllrl_st h hb
  | false =>
    rw [c] at hb
    exact rXgrllrr_st h hb
theorem rXgrll_st {N : Int} {K : Nat → Nat} {n : Nat} {p : rP} {k : Nat} {vs : List jv} {j : Nat} {σ σ' : Nat → jcell} (h : ∀ a, a < n → ∀ q ∈ rm_dep.getD k [], q.1 = K a → aSm vs q (σ a) (σ' a)) (hb : rXgrll N K n p k (vs.take j) σ) : rXgrll N K n p k (vs.take j) σ' := by
  unfold rXgrll at hb ⊢
  cases c : Nat.ble k 475 with
  | true =>
    rw [c] at hb
    exact rXgrlll_st h hb
  | false =>
    rw [c] at hb
    exact rXgrllr_st h hb
theorem rXgrlrll_st {N : Int} {K : Nat → Nat} {n : Nat} {p : rP} {k : Nat} {vs : List jv} {j : Nat} {σ σ' : Nat → jcell} (h : ∀ a, a < n → ∀ q ∈ rm_dep.getD k [], q.1 = K a → aSm vs q (σ a) (σ' a)) (hb : rXgrlrll N K n p k (vs.take j) σ) : rXgrlrll N K n p k (vs.take j) σ' := by
  unfold rXgrlrll at hb ⊢
  cases c : Nat.beq k 479 with
  | true =>
    rw [c] at hb
    obtain rfl := Nat.eq_of_beq_eq_true c
    exact rs_479 (N := N) (p := p) h hb
  | false =>
    rw [c] at hb
    exact hb.elim
theorem rXgrlrlrl_st {N : Int} {K : Nat → Nat} {n : Nat} {p : rP} {k : Nat} {vs : List jv} {j : Nat} {σ σ' : Nat → jcell} (h : ∀ a, a < n → ∀ q ∈ rm_dep.getD k [], q.1 = K a → aSm vs q (σ a) (σ' a)) (hb : rXgrlrlrl N K n p k (vs.take j) σ) : rXgrlrlrl N K n p k (vs.take j) σ' := by
  unfold rXgrlrlrl at hb ⊢
  cases c : Nat.beq k 480 with
  | true =>
    rw [c] at hb
    obtain rfl := Nat.eq_of_beq_eq_true c
    exact rs_480 (N := N) (p := p) h hb
  | false =>
    rw [c] at hb
    exact hb.elim
theorem rXgrlrlrr_st {N : Int} {K : Nat → Nat} {n : Nat} {p : rP} {k : Nat} {vs : List jv} {j : Nat} {σ σ' : Nat → jcell} (h : ∀ a, a < n → ∀ q ∈ rm_dep.getD k [], q.1 = K a → aSm vs q (σ a) (σ' a)) (hb : rXgrlrlrr N K n p k (vs.take j) σ) : rXgrlrlrr N K n p k (vs.take j) σ' := by
  unfold rXgrlrlrr at hb ⊢
  cases c : Nat.beq k 481 with
  | true =>
    rw [c] at hb
    obtain rfl := Nat.eq_of_beq_eq_true c
    exact rs_481 (N := N) (p := p) h hb
  | false =>
    rw [c] at hb
    exact hb.elim
theorem rXgrlrlr_st {N : Int} {K : Nat → Nat} {n : Nat} {p : rP} {k : Nat} {vs : List jv} {j : Nat} {σ σ' : Nat → jcell} (h : ∀ a, a < n → ∀ q ∈ rm_dep.getD k [], q.1 = K a → aSm vs q (σ a) (σ' a)) (hb : rXgrlrlr N K n p k (vs.take j) σ) : rXgrlrlr N K n p k (vs.take j) σ' := by
  unfold rXgrlrlr at hb ⊢
  cases c : Nat.ble k 480 with
  | true =>
    rw [c] at hb
    exact rXgrlrlrl_st h hb
  | false =>
    rw [c] at hb
    exact rXgrlrlrr_st h hb
theorem rXgrlrl_st {N : Int} {K : Nat → Nat} {n : Nat} {p : rP} {k : Nat} {vs : List jv} {j : Nat} {σ σ' : Nat → jcell} (h : ∀ a, a < n → ∀ q ∈ rm_dep.getD k [], q.1 = K a → aSm vs q (σ a) (σ' a)) (hb : rXgrlrl N K n p k (vs.take j) σ) : rXgrlrl N K n p k (vs.take j) σ' := by
  unfold rXgrlrl at hb ⊢
  cases c : Nat.ble k 479 with
  | true =>
    rw [c] at hb
    exact rXgrlrll_st h hb
  | false =>
    rw [c] at hb
    exact rXgrlrlr_st h hb
theorem rXgrlrrl_st {N : Int} {K : Nat → Nat} {n : Nat} {p : rP} {k : Nat} {vs : List jv} {j : Nat} {σ σ' : Nat → jcell} (h : ∀ a, a < n → ∀ q ∈ rm_dep.getD k [], q.1 = K a → aSm vs q (σ a) (σ' a)) (hb : rXgrlrrl N K n p k (vs.take j) σ) : rXgrlrrl N K n p k (vs.take j) σ' := by
  unfold rXgrlrrl at hb ⊢
  cases c : Nat.beq k 482 with
  | true =>
    rw [c] at hb
    obtain rfl := Nat.eq_of_beq_eq_true c
    exact rs_482 (N := N) (p := p) h hb
  | false =>
    rw [c] at hb
    exact hb.elim
theorem rXgrlrrrl_st {N : Int} {K : Nat → Nat} {n : Nat} {p : rP} {k : Nat} {vs : List jv} {j : Nat} {σ σ' : Nat → jcell} (h : ∀ a, a < n → ∀ q ∈ rm_dep.getD k [], q.1 = K a → aSm vs q (σ a) (σ' a)) (hb : rXgrlrrrl N K n p k (vs.take j) σ) : rXgrlrrrl N K n p k (vs.take j) σ' := by
  unfold rXgrlrrrl at hb ⊢
  cases c : Nat.beq k 483 with
  | true =>
    rw [c] at hb
    obtain rfl := Nat.eq_of_beq_eq_true c
    exact rs_483 (N := N) (p := p) h hb
  | false =>
    rw [c] at hb
    exact hb.elim
theorem rXgrlrrrr_st {N : Int} {K : Nat → Nat} {n : Nat} {p : rP} {k : Nat} {vs : List jv} {j : Nat} {σ σ' : Nat → jcell} (h : ∀ a, a < n → ∀ q ∈ rm_dep.getD k [], q.1 = K a → aSm vs q (σ a) (σ' a)) (hb : rXgrlrrrr N K n p k (vs.take j) σ) : rXgrlrrrr N K n p k (vs.take j) σ' := by
  unfold rXgrlrrrr at hb ⊢
  cases c : Nat.beq k 484 with
  | true =>
    rw [c] at hb
    obtain rfl := Nat.eq_of_beq_eq_true c
    exact rs_484 (N := N) (p := p) h hb
  | false =>
    rw [c] at hb
    exact hb.elim
theorem rXgrlrrr_st {N : Int} {K : Nat → Nat} {n : Nat} {p : rP} {k : Nat} {vs : List jv} {j : Nat} {σ σ' : Nat → jcell} (h : ∀ a, a < n → ∀ q ∈ rm_dep.getD k [], q.1 = K a → aSm vs q (σ a) (σ' a)) (hb : rXgrlrrr N K n p k (vs.take j) σ) : rXgrlrrr N K n p k (vs.take j) σ' := by
  unfold rXgrlrrr at hb ⊢
  cases c : Nat.ble k 483 with
  | true =>
    rw [c] at hb
    exact rXgrlrrrl_st h hb
  | false =>
    rw [c] at hb
    exact rXgrlrrrr_st h hb
theorem rXgrlrr_st {N : Int} {K : Nat → Nat} {n : Nat} {p : rP} {k : Nat} {vs : List jv} {j : Nat} {σ σ' : Nat → jcell} (h : ∀ a, a < n → ∀ q ∈ rm_dep.getD k [], q.1 = K a → aSm vs q (σ a) (σ' a)) (hb : rXgrlrr N K n p k (vs.take j) σ) : rXgrlrr N K n p k (vs.take j) σ' := by
  unfold rXgrlrr at hb ⊢
  cases c : Nat.ble k 482 with
  | true =>
    rw [c] at hb
    exact rXgrlrrl_st h hb
  | false =>
    rw [c] at hb
    exact rXgrlrrr_st h hb
theorem rXgrlr_st {N : Int} {K : Nat → Nat} {n : Nat} {p : rP} {k : Nat} {vs : List jv} {j : Nat} {σ σ' : Nat → jcell} (h : ∀ a, a < n → ∀ q ∈ rm_dep.getD k [], q.1 = K a → aSm vs q (σ a) (σ' a)) (hb : rXgrlr N K n p k (vs.take j) σ) : rXgrlr N K n p k (vs.take j) σ' := by
  unfold rXgrlr at hb ⊢
  cases c : Nat.ble k 481 with
  | true =>
    rw [c] at hb
    exact rXgrlrl_st h hb
  | false =>
    rw [c] at hb
    exact rXgrlrr_st h hb
theorem rXgrl_st {N : Int} {K : Nat → Nat} {n : Nat} {p : rP} {k : Nat} {vs : List jv} {j : Nat} {σ σ' : Nat → jcell} (h : ∀ a, a < n → ∀ q ∈ rm_dep.getD k [], q.1 = K a → aSm vs q (σ a) (σ' a)) (hb : rXgrl N K n p k (vs.take j) σ) : rXgrl N K n p k (vs.take j) σ' := by
  unfold rXgrl at hb ⊢
  cases c : Nat.ble k 478 with
  | true =>
    rw [c] at hb
    exact rXgrll_st h hb
  | false =>
    rw [c] at hb
    exact rXgrlr_st h hb
theorem rXgrrlll_st {N : Int} {K : Nat → Nat} {n : Nat} {p : rP} {k : Nat} {vs : List jv} {j : Nat} {σ σ' : Nat → jcell} (h : ∀ a, a < n → ∀ q ∈ rm_dep.getD k [], q.1 = K a → aSm vs q (σ a) (σ' a)) (hb : rXgrrlll N K n p k (vs.take j) σ) : rXgrrlll N K n p k (vs.take j) σ' := by
  unfold rXgrrlll at hb ⊢
  cases c : Nat.beq k 485 with
  | true =>
    rw [c] at hb
    obtain rfl := Nat.eq_of_beq_eq_true c
    exact rs_485 (N := N) (p := p) h hb
  | false =>
    rw [c] at hb
    exact hb.elim
theorem rXgrrllrl_st {N : Int} {K : Nat → Nat} {n : Nat} {p : rP} {k : Nat} {vs : List jv} {j : Nat} {σ σ' : Nat → jcell} (h : ∀ a, a < n → ∀ q ∈ rm_dep.getD k [], q.1 = K a → aSm vs q (σ a) (σ' a)) (hb : rXgrrllrl N K n p k (vs.take j) σ) : rXgrrllrl N K n p k (vs.take j) σ' := by
  unfold rXgrrllrl at hb ⊢
  cases c : Nat.beq k 486 with
  | true =>
    rw [c] at hb
    obtain rfl := Nat.eq_of_beq_eq_true c
    exact rs_486 (N := N) (p := p) h hb
  | false =>
    rw [c] at hb
    exact hb.elim
theorem rXgrrllrr_st {N : Int} {K : Nat → Nat} {n : Nat} {p : rP} {k : Nat} {vs : List jv} {j : Nat} {σ σ' : Nat → jcell} (h : ∀ a, a < n → ∀ q ∈ rm_dep.getD k [], q.1 = K a → aSm vs q (σ a) (σ' a)) (hb : rXgrrllrr N K n p k (vs.take j) σ) : rXgrrllrr N K n p k (vs.take j) σ' := by
  unfold rXgrrllrr at hb ⊢
  cases c : Nat.beq k 487 with
  | true =>
    rw [c] at hb
    obtain rfl := Nat.eq_of_beq_eq_true c
    exact rs_487 (N := N) (p := p) h hb
  | false =>
    rw [c] at hb
    exact hb.elim
theorem rXgrrllr_st {N : Int} {K : Nat → Nat} {n : Nat} {p : rP} {k : Nat} {vs : List jv} {j : Nat} {σ σ' : Nat → jcell} (h : ∀ a, a < n → ∀ q ∈ rm_dep.getD k [], q.1 = K a → aSm vs q (σ a) (σ' a)) (hb : rXgrrllr N K n p k (vs.take j) σ) : rXgrrllr N K n p k (vs.take j) σ' := by
  unfold rXgrrllr at hb ⊢
  cases c : Nat.ble k 486 with
  | true =>
    rw [c] at hb
    exact rXgrrllrl_st h hb
  | false =>
    rw [c] at hb
    exact rXgrrllrr_st h hb
theorem rXgrrll_st {N : Int} {K : Nat → Nat} {n : Nat} {p : rP} {k : Nat} {vs : List jv} {j : Nat} {σ σ' : Nat → jcell} (h : ∀ a, a < n → ∀ q ∈ rm_dep.getD k [], q.1 = K a → aSm vs q (σ a) (σ' a)) (hb : rXgrrll N K n p k (vs.take j) σ) : rXgrrll N K n p k (vs.take j) σ' := by
  unfold rXgrrll at hb ⊢
  cases c : Nat.ble k 485 with
  | true =>
    rw [c] at hb
    exact rXgrrlll_st h hb
  | false =>
    rw [c] at hb
    exact rXgrrllr_st h hb
theorem rXgrrlrl_st {N : Int} {K : Nat → Nat} {n : Nat} {p : rP} {k : Nat} {vs : List jv} {j : Nat} {σ σ' : Nat → jcell} (h : ∀ a, a < n → ∀ q ∈ rm_dep.getD k [], q.1 = K a → aSm vs q (σ a) (σ' a)) (hb : rXgrrlrl N K n p k (vs.take j) σ) : rXgrrlrl N K n p k (vs.take j) σ' := by
  unfold rXgrrlrl at hb ⊢
  cases c : Nat.beq k 488 with
  | true =>
    rw [c] at hb
    obtain rfl := Nat.eq_of_beq_eq_true c
    exact rs_488 (N := N) (p := p) h hb
  | false =>
    rw [c] at hb
    exact hb.elim
theorem rXgrrlrrl_st {N : Int} {K : Nat → Nat} {n : Nat} {p : rP} {k : Nat} {vs : List jv} {j : Nat} {σ σ' : Nat → jcell} (h : ∀ a, a < n → ∀ q ∈ rm_dep.getD k [], q.1 = K a → aSm vs q (σ a) (σ' a)) (hb : rXgrrlrrl N K n p k (vs.take j) σ) : rXgrrlrrl N K n p k (vs.take j) σ' := by
  unfold rXgrrlrrl at hb ⊢
  cases c : Nat.beq k 489 with
  | true =>
    rw [c] at hb
    obtain rfl := Nat.eq_of_beq_eq_true c
    exact rs_489 (N := N) (p := p) h hb
  | false =>
    rw [c] at hb
    exact hb.elim
theorem rXgrrlrrr_st {N : Int} {K : Nat → Nat} {n : Nat} {p : rP} {k : Nat} {vs : List jv} {j : Nat} {σ σ' : Nat → jcell} (h : ∀ a, a < n → ∀ q ∈ rm_dep.getD k [], q.1 = K a → aSm vs q (σ a) (σ' a)) (hb : rXgrrlrrr N K n p k (vs.take j) σ) : rXgrrlrrr N K n p k (vs.take j) σ' := by
  unfold rXgrrlrrr at hb ⊢
  cases c : Nat.beq k 490 with
  | true =>
    rw [c] at hb
    obtain rfl := Nat.eq_of_beq_eq_true c
    exact rs_490 (N := N) (p := p) h hb
  | false =>
    rw [c] at hb
    exact hb.elim
theorem rXgrrlrr_st {N : Int} {K : Nat → Nat} {n : Nat} {p : rP} {k : Nat} {vs : List jv} {j : Nat} {σ σ' : Nat → jcell} (h : ∀ a, a < n → ∀ q ∈ rm_dep.getD k [], q.1 = K a → aSm vs q (σ a) (σ' a)) (hb : rXgrrlrr N K n p k (vs.take j) σ) : rXgrrlrr N K n p k (vs.take j) σ' := by
  unfold rXgrrlrr at hb ⊢
  cases c : Nat.ble k 489 with
  | true =>
    rw [c] at hb
    exact rXgrrlrrl_st h hb
  | false =>
    rw [c] at hb
    exact rXgrrlrrr_st h hb
theorem rXgrrlr_st {N : Int} {K : Nat → Nat} {n : Nat} {p : rP} {k : Nat} {vs : List jv} {j : Nat} {σ σ' : Nat → jcell} (h : ∀ a, a < n → ∀ q ∈ rm_dep.getD k [], q.1 = K a → aSm vs q (σ a) (σ' a)) (hb : rXgrrlr N K n p k (vs.take j) σ) : rXgrrlr N K n p k (vs.take j) σ' := by
  unfold rXgrrlr at hb ⊢
  cases c : Nat.ble k 488 with
  | true =>
    rw [c] at hb
    exact rXgrrlrl_st h hb
  | false =>
    rw [c] at hb
    exact rXgrrlrr_st h hb
theorem rXgrrl_st {N : Int} {K : Nat → Nat} {n : Nat} {p : rP} {k : Nat} {vs : List jv} {j : Nat} {σ σ' : Nat → jcell} (h : ∀ a, a < n → ∀ q ∈ rm_dep.getD k [], q.1 = K a → aSm vs q (σ a) (σ' a)) (hb : rXgrrl N K n p k (vs.take j) σ) : rXgrrl N K n p k (vs.take j) σ' := by
  unfold rXgrrl at hb ⊢
  cases c : Nat.ble k 487 with
  | true =>
    rw [c] at hb
    exact rXgrrll_st h hb
  | false =>
    rw [c] at hb
    exact rXgrrlr_st h hb
theorem rXgrrrll_st {N : Int} {K : Nat → Nat} {n : Nat} {p : rP} {k : Nat} {vs : List jv} {j : Nat} {σ σ' : Nat → jcell} (h : ∀ a, a < n → ∀ q ∈ rm_dep.getD k [], q.1 = K a → aSm vs q (σ a) (σ' a)) (hb : rXgrrrll N K n p k (vs.take j) σ) : rXgrrrll N K n p k (vs.take j) σ' := by
  unfold rXgrrrll at hb ⊢
  cases c : Nat.beq k 491 with
  | true =>
    rw [c] at hb
    obtain rfl := Nat.eq_of_beq_eq_true c
    exact rs_491 (N := N) (p := p) h hb
  | false =>
    rw [c] at hb
    exact hb.elim
theorem rXgrrrlrl_st {N : Int} {K : Nat → Nat} {n : Nat} {p : rP} {k : Nat} {vs : List jv} {j : Nat} {σ σ' : Nat → jcell} (h : ∀ a, a < n → ∀ q ∈ rm_dep.getD k [], q.1 = K a → aSm vs q (σ a) (σ' a)) (hb : rXgrrrlrl N K n p k (vs.take j) σ) : rXgrrrlrl N K n p k (vs.take j) σ' := by
  unfold rXgrrrlrl at hb ⊢
  cases c : Nat.beq k 492 with
  | true =>
    rw [c] at hb
    obtain rfl := Nat.eq_of_beq_eq_true c
    exact rs_492 (N := N) (p := p) h hb
  | false =>
    rw [c] at hb
    exact hb.elim
theorem rXgrrrlrr_st {N : Int} {K : Nat → Nat} {n : Nat} {p : rP} {k : Nat} {vs : List jv} {j : Nat} {σ σ' : Nat → jcell} (h : ∀ a, a < n → ∀ q ∈ rm_dep.getD k [], q.1 = K a → aSm vs q (σ a) (σ' a)) (hb : rXgrrrlrr N K n p k (vs.take j) σ) : rXgrrrlrr N K n p k (vs.take j) σ' := by
  unfold rXgrrrlrr at hb ⊢
  cases c : Nat.beq k 493 with
  | true =>
    rw [c] at hb
    obtain rfl := Nat.eq_of_beq_eq_true c
    exact rs_493 (N := N) (p := p) h hb
  | false =>
    rw [c] at hb
    exact hb.elim
theorem rXgrrrlr_st {N : Int} {K : Nat → Nat} {n : Nat} {p : rP} {k : Nat} {vs : List jv} {j : Nat} {σ σ' : Nat → jcell} (h : ∀ a, a < n → ∀ q ∈ rm_dep.getD k [], q.1 = K a → aSm vs q (σ a) (σ' a)) (hb : rXgrrrlr N K n p k (vs.take j) σ) : rXgrrrlr N K n p k (vs.take j) σ' := by
  unfold rXgrrrlr at hb ⊢
  cases c : Nat.ble k 492 with
  | true =>
    rw [c] at hb
    exact rXgrrrlrl_st h hb
  | false =>
    rw [c] at hb
    exact rXgrrrlrr_st h hb
theorem rXgrrrl_st {N : Int} {K : Nat → Nat} {n : Nat} {p : rP} {k : Nat} {vs : List jv} {j : Nat} {σ σ' : Nat → jcell} (h : ∀ a, a < n → ∀ q ∈ rm_dep.getD k [], q.1 = K a → aSm vs q (σ a) (σ' a)) (hb : rXgrrrl N K n p k (vs.take j) σ) : rXgrrrl N K n p k (vs.take j) σ' := by
  unfold rXgrrrl at hb ⊢
  cases c : Nat.ble k 491 with
  | true =>
    rw [c] at hb
    exact rXgrrrll_st h hb
  | false =>
    rw [c] at hb
    exact rXgrrrlr_st h hb
theorem rXgrrrrl_st {N : Int} {K : Nat → Nat} {n : Nat} {p : rP} {k : Nat} {vs : List jv} {j : Nat} {σ σ' : Nat → jcell} (h : ∀ a, a < n → ∀ q ∈ rm_dep.getD k [], q.1 = K a → aSm vs q (σ a) (σ' a)) (hb : rXgrrrrl N K n p k (vs.take j) σ) : rXgrrrrl N K n p k (vs.take j) σ' := by
  unfold rXgrrrrl at hb ⊢
  cases c : Nat.beq k 494 with
  | true =>
    rw [c] at hb
    obtain rfl := Nat.eq_of_beq_eq_true c
    exact rs_494 (N := N) (p := p) h hb
  | false =>
    rw [c] at hb
    exact hb.elim
theorem rXgrrrrrl_st {N : Int} {K : Nat → Nat} {n : Nat} {p : rP} {k : Nat} {vs : List jv} {j : Nat} {σ σ' : Nat → jcell} (h : ∀ a, a < n → ∀ q ∈ rm_dep.getD k [], q.1 = K a → aSm vs q (σ a) (σ' a)) (hb : rXgrrrrrl N K n p k (vs.take j) σ) : rXgrrrrrl N K n p k (vs.take j) σ' := by
  unfold rXgrrrrrl at hb ⊢
  cases c : Nat.beq k 495 with
  | true =>
    rw [c] at hb
    obtain rfl := Nat.eq_of_beq_eq_true c
    exact rs_495 (N := N) (p := p) h hb
  | false =>
    rw [c] at hb
    exact hb.elim
theorem rXgrrrrrr_st {N : Int} {K : Nat → Nat} {n : Nat} {p : rP} {k : Nat} {vs : List jv} {j : Nat} {σ σ' : Nat → jcell} (h : ∀ a, a < n → ∀ q ∈ rm_dep.getD k [], q.1 = K a → aSm vs q (σ a) (σ' a)) (hb : rXgrrrrrr N K n p k (vs.take j) σ) : rXgrrrrrr N K n p k (vs.take j) σ' := by
  unfold rXgrrrrrr at hb ⊢
  cases c : Nat.beq k 496 with
  | true =>
    rw [c] at hb
    obtain rfl := Nat.eq_of_beq_eq_true c
    exact rs_496 (N := N) (p := p) h hb
  | false =>
    rw [c] at hb
    exact hb.elim
theorem rXgrrrrr_st {N : Int} {K : Nat → Nat} {n : Nat} {p : rP} {k : Nat} {vs : List jv} {j : Nat} {σ σ' : Nat → jcell} (h : ∀ a, a < n → ∀ q ∈ rm_dep.getD k [], q.1 = K a → aSm vs q (σ a) (σ' a)) (hb : rXgrrrrr N K n p k (vs.take j) σ) : rXgrrrrr N K n p k (vs.take j) σ' := by
  unfold rXgrrrrr at hb ⊢
  cases c : Nat.ble k 495 with
  | true =>
    rw [c] at hb
    exact rXgrrrrrl_st h hb
  | false =>
    rw [c] at hb
    exact rXgrrrrrr_st h hb
theorem rXgrrrr_st {N : Int} {K : Nat → Nat} {n : Nat} {p : rP} {k : Nat} {vs : List jv} {j : Nat} {σ σ' : Nat → jcell} (h : ∀ a, a < n → ∀ q ∈ rm_dep.getD k [], q.1 = K a → aSm vs q (σ a) (σ' a)) (hb : rXgrrrr N K n p k (vs.take j) σ) : rXgrrrr N K n p k (vs.take j) σ' := by
  unfold rXgrrrr at hb ⊢
  cases c : Nat.ble k 494 with
  | true =>
    rw [c] at hb
    exact rXgrrrrl_st h hb
  | false =>
    rw [c] at hb
    exact rXgrrrrr_st h hb
theorem rXgrrr_st {N : Int} {K : Nat → Nat} {n : Nat} {p : rP} {k : Nat} {vs : List jv} {j : Nat} {σ σ' : Nat → jcell} (h : ∀ a, a < n → ∀ q ∈ rm_dep.getD k [], q.1 = K a → aSm vs q (σ a) (σ' a)) (hb : rXgrrr N K n p k (vs.take j) σ) : rXgrrr N K n p k (vs.take j) σ' := by
  unfold rXgrrr at hb ⊢
  cases c : Nat.ble k 493 with
  | true =>
    rw [c] at hb
    exact rXgrrrl_st h hb
  | false =>
    rw [c] at hb
    exact rXgrrrr_st h hb
theorem rXgrr_st {N : Int} {K : Nat → Nat} {n : Nat} {p : rP} {k : Nat} {vs : List jv} {j : Nat} {σ σ' : Nat → jcell} (h : ∀ a, a < n → ∀ q ∈ rm_dep.getD k [], q.1 = K a → aSm vs q (σ a) (σ' a)) (hb : rXgrr N K n p k (vs.take j) σ) : rXgrr N K n p k (vs.take j) σ' := by
  unfold rXgrr at hb ⊢
  cases c : Nat.ble k 490 with
  | true =>
    rw [c] at hb
    exact rXgrrl_st h hb
  | false =>
    rw [c] at hb
    exact rXgrrr_st h hb
theorem rXgr_st {N : Int} {K : Nat → Nat} {n : Nat} {p : rP} {k : Nat} {vs : List jv} {j : Nat} {σ σ' : Nat → jcell} (h : ∀ a, a < n → ∀ q ∈ rm_dep.getD k [], q.1 = K a → aSm vs q (σ a) (σ' a)) (hb : rXgr N K n p k (vs.take j) σ) : rXgr N K n p k (vs.take j) σ' := by
  unfold rXgr at hb ⊢
  cases c : Nat.ble k 484 with
  | true =>
    rw [c] at hb
    exact rXgrl_st h hb
  | false =>
    rw [c] at hb
    exact rXgrr_st h hb
theorem rXg_st {N : Int} {K : Nat → Nat} {n : Nat} {p : rP} {k : Nat} {vs : List jv} {j : Nat} {σ σ' : Nat → jcell} (h : ∀ a, a < n → ∀ q ∈ rm_dep.getD k [], q.1 = K a → aSm vs q (σ a) (σ' a)) (hb : rXg N K n p k (vs.take j) σ) : rXg N K n p k (vs.take j) σ' := by
  unfold rXg at hb ⊢
  cases c : Nat.ble k 473 with
  | true =>
    rw [c] at hb
    exact rXgl_st h hb
  | false =>
    rw [c] at hb
    exact rXgr_st h hb
theorem rm_lo : ∀ k ∈ List.range 342, ∀ q ∈ ra_dep.getD k [], q ∈ rm_dep.getD k [] := by decide +kernel
theorem rm_mi : ∀ k ∈ List.range 50, ∀ q ∈ ra_dep.getD (400 + k) [], q ∈ rm_dep.getD (400 + k) [] := by decide +kernel
theorem rm_sub {k : Nat} (h : k ≤ 341 ∨ (400 ≤ k ∧ k ≤ 449)) : ∀ q ∈ ra_dep.getD k [], q ∈ rm_dep.getD k [] := by
  rcases h with h | h
  · exact rm_lo k (List.mem_range.mpr (by omega))
  · have h9 := rm_mi (k - 400) (List.mem_range.mpr (by omega))
    rwa [show 400 + (k - 400) = k by omega] at h9
theorem rB3_st {N : Int} {K : Nat → Nat} {n : Nat} {p : rP} {k : Nat} {vs : List jv} {j : Nat} {σ σ' : Nat → jcell} (h : ∀ a, a < n → ∀ q ∈ rm_dep.getD k [], q.1 = K a → aSm vs q (σ a) (σ' a)) (hb : rB3 N K n p k (vs.take j) σ) : rB3 N K n p k (vs.take j) σ' := by
  cases c0 : rOk3 k with
  | true =>
    exact (rB3_o c0).mpr (rB2_st (fun a ha q hq e => h a ha q (rm_sub (rOk3_e c0) q hq) e) ((rB3_o c0).mp hb))
  | false =>
    have hk : ¬ (k ≤ 341 ∨ (400 ≤ k ∧ k ≤ 449)) := fun h9 => by
      have e9 : rOk3 k = true := by
        unfold rOk3
        rw [Bool.or_eq_true, Bool.and_eq_true]
        rcases h9 with h9 | h9
        · exact Or.inl (Nat.ble_eq_true_of_le h9)
        · exact Or.inr ⟨Nat.ble_eq_true_of_le h9.1, Nat.ble_eq_true_of_le h9.2⟩
      rw [c0] at e9
      cases e9
    unfold rB3 at hb ⊢
    cases c1 : Nat.ble 1000 k with
    | true => rw [c1] at hb; exact hb.elim
    | false =>
      rw [c1] at hb
      cases c2 : Nat.ble 450 k with
      | true => rw [c2] at hb; exact rXg_st h hb
      | false =>
        have c2' : ¬ 450 ≤ k := fun h9 => by rw [Nat.ble_eq_true_of_le h9] at c2; cases c2
        rw [c2, show Nat.ble 342 k = true from Nat.ble_eq_true_of_le (by omega), show Nat.ble k 399 = true from Nat.ble_eq_true_of_le (by omega)] at hb
        rw [show Nat.ble 342 k = true from Nat.ble_eq_true_of_le (by omega), show Nat.ble k 399 = true from Nat.ble_eq_true_of_le (by omega)]
        exact rXf_st h hb
theorem rH_op {N : Int} {K : Nat → Nat} {n : Nat} : aOc (rH N K n) rm_dep := by
  intro h0 p o x y c σ h
  have h1 := rG_op (K := K) (n := n) (by decide +kernel) p o x y c σ h
  have ho : o < 18 := by
    by_cases c9 : o < 18
    · exact c9
    · exfalso
      unfold aOv at h
      split at h
      · split at h <;> first | omega | exact h
      · split at h <;> first | omega | exact h
      · split at h <;> first | omega | exact h
      · exact h
  refine (rGH ?_).mp h1
  unfold rOkr3
  rw [if_pos (by omega), show (16 * (100 + o) + 3) / 16 = 100 + o by omega]
  unfold rOk3
  rw [show Nat.ble (100 + o) 341 = true from Nat.ble_eq_true_of_le (by omega)]
  rfl
theorem rH_dpm {N : Int} {K : Nat → Nat} {n : Nat} : aDp (rH N K n) K n rm_dep := rF_dp (by decide +kernel) (rB3_hi N K n) (fun p k j vs σ σ' _ h hb => rB3_st h hb) rH_op
theorem rH_dpa {N : Int} {K : Nat → Nat} {n : Nat} : aDp (rH N K n) K n fa_dep := rF_dp (by decide +kernel) (rB3_hi N K n) (fun p k j vs σ σ' hk _ hb => (rB_lo (Nat.lt_of_lt_of_le hk (show fa_dep.length ≤ 22 by decide +kernel)) ((rB2_o (by
  have hk2 := Nat.lt_of_lt_of_le hk (show fa_dep.length ≤ 22 by decide +kernel)
  unfold rOk
  rw [show Nat.ble k 236 = true from Nat.ble_eq_true_of_le (by omega)]
  rfl)).mp ((rB3_o (by
  have hk2 := Nat.lt_of_lt_of_le hk (show fa_dep.length ≤ 22 by decide +kernel)
  unfold rOk3
  rw [show Nat.ble k 341 = true from Nat.ble_eq_true_of_le (by omega)]
  rfl)).mp hb))).elim) (fun h0 => absurd h0 (by decide +kernel))
end
section
section FA
variable {l : Launch} {E : jE} {K : Nat → Nat} {n : Nat} {P : Type} {F : aFt P} {sh : P → List jv → P} {JX : (Nat → jcell) → Prop}
noncomputable def ak_MTgoesP : List jI := [(.aload_n 0, 1, (0, 0, 0, 0, 0)), (.getfield 71, 3, (12, 24, 2055, 0, 0)), (.iload_n 1, 1, (1, 0, 0, 0, 0)), (.iaload, 1, (0, 0, 0, 0, 0)), (.invokestatic 162, 3, (4, 0, 1963, 0, 0)), (.aload_n 0, 1, (0, 0, 0, 0, 0)), (.getfield 122, 3, (12, 25, 2057, 0, 0)), (.if_icmp .ne 24, 3, (37, 0, 0, 0, 0)), (.aload_n 0, 1, (0, 0, 0, 0, 0)), (.getfield 71, 3, (12, 24, 2055, 0, 0)), (.iload_n 2, 1, (2, 0, 0, 0, 0)), (.iaload, 1, (0, 0, 0, 0, 0)), (.invokestatic 162, 3, (4, 0, 1963, 0, 0)), (.aload_n 0, 1, (0, 0, 0, 0, 0)), (.getfield 122, 3, (12, 25, 2057, 0, 0)), (.if_icmp .eq 8, 3, (37, 0, 0, 0, 0)), (.iload_n 1, 1, (1, 0, 0, 0, 0)), (.iload_n 2, 1, (2, 0, 0, 0, 0)), (.if_icmp .ne 5, 3, (39, 0, 0, 0, 0)), (.iconst 0, 1, (0, 0, 0, 0, 0)), (.ireturn, 1, (0, 0, 0, 0, 0)), (.aload_n 0, 1, (0, 0, 0, 0, 0)), (.getfield 71, 3, (12, 24, 2055, 0, 0)), (.iload_n 1, 1, (1, 0, 0, 0, 0)), (.iaload, 1, (0, 0, 0, 0, 0)), (.invokestatic 137, 3, (3, 0, 1941, 0, 0)), (.istore_n 3, 1, (3, 0, 0, 0, 0)), (.iload_n 3, 1, (3, 0, 0, 0, 0)), (.iconst 1, 1, (0, 0, 0, 1, 0)), (.if_icmp .ne 10, 3, (61, 0, 0, 0, 0)), (.aload_n 0, 1, (0, 0, 0, 0, 0)), (.iload_n 1, 1, (1, 0, 0, 0, 0)), (.iload_n 2, 1, (2, 0, 0, 0, 0)), (.invokevirtual 165, 3, (1, 0, 1970, 0, 0)), (.ireturn, 1, (0, 0, 0, 0, 0)), (.iload_n 2, 1, (2, 0, 0, 0, 0)), (.bipush 8, 2, (0, 0, 0, 8, 0)), (.irem, 1, (0, 0, 0, 0, 0)), (.iload_n 1, 1, (1, 0, 0, 0, 0)), (.bipush 8, 2, (0, 0, 0, 8, 0)), (.irem, 1, (0, 0, 0, 0, 0)), (.isub, 1, (0, 0, 0, 0, 0)), (.istore 4, 2, (4, 0, 0, 0, 0)), (.iload_n 2, 1, (2, 0, 0, 0, 0)), (.bipush 8, 2, (0, 0, 0, 8, 0)), (.idiv, 1, (0, 0, 0, 0, 0)), (.iload_n 1, 1, (1, 0, 0, 0, 0)), (.bipush 8, 2, (0, 0, 0, 8, 0)), (.idiv, 1, (0, 0, 0, 0, 0)), (.isub, 1, (0, 0, 0, 0, 0)), (.istore 5, 2, (5, 0, 0, 0, 0)), (.iload 4, 2, (4, 0, 0, 0, 0)), (.iload 4, 2, (4, 0, 0, 0, 0)), (.imul, 1, (0, 0, 0, 0, 0)), (.iload 5, 2, (5, 0, 0, 0, 0)), (.iload 5, 2, (5, 0, 0, 0, 0)), (.imul, 1, (0, 0, 0, 0, 0)), (.iadd, 1, (0, 0, 0, 0, 0)), (.istore 6, 2, (6, 0, 0, 0, 0)), (.iload_n 3, 1, (3, 0, 0, 0, 0)), (.iconst 2, 1, (0, 0, 0, 2, 0)), (.if_icmp .ne 15, 3, (113, 0, 0, 0, 0)), (.iload 6, 2, (6, 0, 0, 0, 0)), (.iconst 5, 1, (0, 0, 0, 5, 0)), (.if_icmp .ne 7, 3, (111, 0, 0, 0, 0)), (.iconst 1, 1, (0, 0, 0, 1, 0)), (.goto 4, 3, (112, 0, 0, 0, 0)), (.iconst 0, 1, (0, 0, 0, 0, 0)), (.ireturn, 1, (0, 0, 0, 0, 0)), (.iload_n 3, 1, (3, 0, 0, 0, 0)), (.bipush 6, 2, (0, 0, 0, 6, 0)), (.if_icmp .ne 47, 3, (163, 0, 0, 0, 0)), (.iload 6, 2, (6, 0, 0, 0, 0)), (.iconst 3, 1, (0, 0, 0, 3, 0)), (.if_icmp .lt 35, 3, (157, 0, 0, 0, 0)), (.iload_n 1, 1, (1, 0, 0, 0, 0)), (.iconst 4, 1, (0, 0, 0, 4, 0)), (.bipush 56, 2, (0, 0, 0, 56, 0)), (.aload_n 0, 1, (0, 0, 0, 0, 0)), (.getfield 122, 3, (12, 25, 2057, 0, 0)), (.imul, 1, (0, 0, 0, 0, 0)), (.iadd, 1, (0, 0, 0, 0, 0)), (.if_icmp .ne 26, 3, (161, 0, 0, 0, 0)), (.iload 5, 2, (5, 0, 0, 0, 0)), (.ifCond .ne 21, 3, (161, 0, 0, 0, 0)), (.iload 6, 2, (6, 0, 0, 0, 0)), (.iconst 4, 1, (0, 0, 0, 4, 0)), (.if_icmp .ne 15, 3, (161, 0, 0, 0, 0)), (.aload_n 0, 1, (0, 0, 0, 0, 0)), (.iload_n 2, 1, (2, 0, 0, 0, 0)), (.invokevirtual 168, 3, (0, 0, 1974, 0, 0)), (.ifCond .eq 7, 3, (161, 0, 0, 0, 0)), (.iconst 1, 1, (0, 0, 0, 1, 0)), (.goto 4, 3, (162, 0, 0, 0, 0)), (.iconst 0, 1, (0, 0, 0, 0, 0)), (.ireturn, 1, (0, 0, 0, 0, 0)), (.iload 4, 2, (4, 0, 0, 0, 0)), (.ifCond .eq 8, 3, (173, 0, 0, 0, 0)), (.iload 5, 2, (5, 0, 0, 0, 0)), (.ifCond .ne 7, 3, (177, 0, 0, 0, 0)), (.iconst 1, 1, (0, 0, 0, 1, 0)), (.goto 4, 3, (178, 0, 0, 0, 0)), (.iconst 0, 1, (0, 0, 0, 0, 0)), (.istore 7, 2, (7, 0, 0, 0, 0)), (.iload 7, 2, (7, 0, 0, 0, 0)), (.ifCond .ne 18, 3, (200, 0, 0, 0, 0)), (.iload 4, 2, (4, 0, 0, 0, 0)), (.iload 5, 2, (5, 0, 0, 0, 0)), (.if_icmp .eq 11, 3, (200, 0, 0, 0, 0)), (.iload 4, 2, (4, 0, 0, 0, 0)), (.iload 5, 2, (5, 0, 0, 0, 0)), (.ineg, 1, (0, 0, 0, 0, 0)), (.if_icmp .ne 23, 3, (220, 0, 0, 0, 0)), (.iload 7, 2, (7, 0, 0, 0, 0)), (.ifCond .eq 8, 3, (210, 0, 0, 0, 0)), (.iload_n 3, 1, (3, 0, 0, 0, 0)), (.iconst 3, 1, (0, 0, 0, 3, 0)), (.if_icmp .eq 13, 3, (220, 0, 0, 0, 0)), (.iload 7, 2, (7, 0, 0, 0, 0)), (.ifCond .ne 10, 3, (222, 0, 0, 0, 0)), (.iload_n 3, 1, (3, 0, 0, 0, 0)), (.iconst 4, 1, (0, 0, 0, 4, 0)), (.if_icmp .ne 5, 3, (222, 0, 0, 0, 0)), (.iconst 0, 1, (0, 0, 0, 0, 0)), (.ireturn, 1, (0, 0, 0, 0, 0)), (.iload 4, 2, (4, 0, 0, 0, 0)), (.ifCond .le 7, 3, (231, 0, 0, 0, 0)), (.iconst 1, 1, (0, 0, 0, 1, 0)), (.goto 13, 3, (241, 0, 0, 0, 0)), (.iload 4, 2, (4, 0, 0, 0, 0)), (.ifCond .ge 7, 3, (240, 0, 0, 0, 0)), (.iconst (-1), 1, (0, 0, 0, (-1), 0)), (.goto 4, 3, (241, 0, 0, 0, 0)), (.iconst 0, 1, (0, 0, 0, 0, 0)), (.istore 8, 2, (8, 0, 0, 0, 0)), (.iload 5, 2, (5, 0, 0, 0, 0)), (.ifCond .le 7, 3, (252, 0, 0, 0, 0)), (.iconst 1, 1, (0, 0, 0, 1, 0)), (.goto 13, 3, (262, 0, 0, 0, 0)), (.iload 5, 2, (5, 0, 0, 0, 0)), (.ifCond .ge 7, 3, (261, 0, 0, 0, 0)), (.iconst (-1), 1, (0, 0, 0, (-1), 0)), (.goto 4, 3, (262, 0, 0, 0, 0)), (.iconst 0, 1, (0, 0, 0, 0, 0)), (.istore 9, 2, (9, 0, 0, 0, 0)), (.iload_n 1, 1, (1, 0, 0, 0, 0)), (.iload 8, 2, (8, 0, 0, 0, 0)), (.iload 9, 2, (9, 0, 0, 0, 0)), (.invokestatic 104, 3, (2, 0, 1952, 0, 0)), (.istore 10, 2, (10, 0, 0, 0, 0)), (.iload 10, 2, (10, 0, 0, 0, 0)), (.iload_n 2, 1, (2, 0, 0, 0, 0)), (.if_icmp .eq 27, 3, (304, 0, 0, 0, 0)), (.aload_n 0, 1, (0, 0, 0, 0, 0)), (.getfield 71, 3, (12, 24, 2055, 0, 0)), (.iload 10, 2, (10, 0, 0, 0, 0)), (.iaload, 1, (0, 0, 0, 0, 0)), (.ifCond .ne 17, 3, (304, 0, 0, 0, 0)), (.iload 10, 2, (10, 0, 0, 0, 0)), (.iload 8, 2, (8, 0, 0, 0, 0)), (.iload 9, 2, (9, 0, 0, 0, 0)), (.invokestatic 104, 3, (2, 0, 1952, 0, 0)), (.istore 10, 2, (10, 0, 0, 0, 0)), (.goto (-27), 3, (274, 0, 0, 0, 0)), (.iload 10, 2, (10, 0, 0, 0, 0)), (.iload_n 2, 1, (2, 0, 0, 0, 0)), (.if_icmp .ne 7, 3, (314, 0, 0, 0, 0)), (.iconst 1, 1, (0, 0, 0, 1, 0)), (.goto 4, 3, (315, 0, 0, 0, 0)), (.iconst 0, 1, (0, 0, 0, 0, 0)), (.ireturn, 1, (0, 0, 0, 0, 0))]
theorem ao_MTgoesP : jokLG jtF lk_MT "ChessHouseModel$Texts" jcl jtb 11 prog_18_method_20_code 0 ak_MTgoesP = true := by decide +kernel
noncomputable def ag_MTgoesP : aCon := (y_MT_goes, false, 3, ([(.inr (some (.inl (false, 62))), none), (.inl (0, 63), none), (.inl (0, 63), none)], ([], [], [], [])), (some (.inl (0, 1)), [], ([], [], [], []), [[]]), ([], []), { frames := 4, cells := 0, slots := 0, locals := 102 })
noncomputable def am_MTgoesP : aMi := (("ChessHouseModel$Texts", lw_tbl, jcl, (some .boolean), [(104, 1952, 2), (137, 1941, 3), (162, 1963, 4), (165, 1970, 1), (168, 1974, 0)], [], [], [ag_rvTRI, ag_rwNEu, ag_rwNEd, ag_rwRM, ag_rwRMa, ag_rwRMb, ag_rwRKd, ag_rwRKa, ag_rwRKb, ag_rwFR, ag_rvTRI0b, ag_rkRY4, ag_rkRYq0, ag_rkRY2, ag_rkRYq2, ag_rkRY6, ag_rkRYq1, ag_rkRY0, ag_rkRY1, ag_rwNZ, ag_rkRY7, ag_rkRY3, ag_rkRYq3, ag_rkRY5, ag_rkRYnd, ag_rkRYnu], [(34, 0, [.inr (.inl 1), .inr (.inl 0)], [3, 4]), (34, 1001, [], [1, 2]), (34, 1002, [], [1, 2]), (65, 3, [.inr (.inl 0), .inr (.inl 1000048)], [2, 3, 4]), (65, 4, [.inr (.inl 0)], [3]), (69, 3, [.inr (.inl 0), .inr (.inl 1000048)], [1, 3, 4]), (69, 5, [.inr (.inl 0)], [3]), (76, 6, [.inr (.inl 0)], [2, 3]), (76, 7, [.inr (.inl 0)], [3]), (80, 6, [.inr (.inl 0)], [1, 3]), (80, 8, [.inr (.inl 0)], [3]), (83, 9, [.inl 4, .inl 5, .inr (.inl 60664), .inr (.inl 60408), .inr (.inl 61176), .inr (.inl 60920)], [1, 2, 3, 4, 5, 6, 7, 8]), (165, 10, [.inr (.inl 0)], [3]), (170, 10, [.inr (.inl 0)], [3]), (189, 0, [.inr (.inl 1), .inr (.inl 0)], [3, 4]), (197, 0, [.inr (.inl 1), .inr (.inl 0)], [3, 4]), (262, 1019, [.inl 4, .inl 5], [1, 2, 3, 4]), (272, 1017, [.inl 8, .inl 9, .inl 4, .inl 5, .inr (.inl 0)], [1, 2, 3, 4, 5, 6, 7]), (272, 1018, [.inl 8, .inl 9, .inl 4, .inl 5, .inr (.inl 0)], [1, 2, 3, 4, 5, 6, 7]), (272, 1013, [.inl 8, .inl 9, .inl 4, .inl 5, .inr (.inl 0)], [1, 2, 3, 4, 5, 6, 7]), (272, 1021, [.inl 8, .inl 9, .inl 4, .inl 5, .inr (.inl 0)], [1, 2, 3, 4, 5, 6, 7]), (272, 1011, [.inl 8, .inl 9, .inl 4, .inl 5, .inr (.inl 0)], [1, 2, 3, 4, 5, 6, 7]), (272, 1023, [.inl 8, .inl 9, .inl 4, .inl 5, .inr (.inl 0)], [1, 2, 3, 4, 5, 6, 7]), (272, 1015, [.inl 8, .inl 9, .inl 4, .inl 5, .inr (.inl 0)], [1, 2, 3, 4, 5, 6, 7]), (272, 1020, [.inl 8, .inl 9, .inl 4, .inl 5, .inr (.inl 0)], [1, 2, 3, 4, 5, 6, 7]), (277, 1012, [.inl 8, .inl 9, .inl 10], [1, 2, 3, 4, 5]), (277, 1016, [.inl 8, .inl 9, .inl 10], [1, 2, 3, 4, 5]), (277, 1014, [.inl 8, .inl 9, .inl 10], [1, 2, 3, 4, 5]), (277, 1022, [.inl 8, .inl 9, .inl 10], [1, 2, 3, 4, 5]), (277, 0, [.inr (.inl 1), .inr (.inl 0)], [3, 4]), (299, 1025, [.inl 8, .inl 9, .inl 10, .inr (.inl 0)], [1, 2, 3, 4, 5, 6]), (299, 1024, [.inl 8, .inl 9, .inl 10, .inr (.inl 0)], [1, 2, 3, 4, 5, 6])]), (fa_T, fa_TB, fa_Pk, [], [], rm_dep, 3), [ag_MTmayCastle, ag_MTpawnGoes, ag_MTstepX, ag_MTkindX, ag_MTsideOfX], ag_MTgoesP, ak_MTgoesP, [(39, ([some 0, some 1, some 2, none, none, none, none, none, none, none, none], [], [(.inr (some (.inl (false, 62))), none), (.inl (0, 63), none), (.inl (0, 63), none)], ([], [], [], [(3602, [1, 2]), (0, [])])), [], [([], 5), ([], 0), ([], 0)]), (163, ([some 0, some 1, some 2, some 3, some 4, some 5, some 6, none, none, none, none], [], [(.inr (some (.inl (false, 62))), none), (.inl (0, 63), none), (.inl (0, 63), none), (.inl (0, 7), none), (.inl (-7, 7), none), (.inl (-7, 7), none), (.inl (-98, 98), none)], ([], [], [([(2, 1), (4, -1)], 0), ([(1, -1), (4, -1)], 63)], [(3620, [1, 2, 4, 5]), (3602, [1, 2]), (0, [])])), [.inl 3, .inl 4, .inl 5, .inl 6], [([], 4), ([], 0), ([], 0)]), (280, ([some 0, none, some 2, some 3, some 4, some 5, some 6, none, some 7, some 8, some 9], [], [(.inr (some (.inl (false, 62))), none), (.inl (0, 56), none), (.inl (8, 63), none), (.inl (0, 7), none), (.inl (-7, 7), none), (.inl (1, 7), none), (.inl (-98, 98), none), (.inl (-1, 1), none), (.inl (1, 1), none), (.inl (7, 62), none)], ([], [], [([(2, 1), (9, -1)], -1)], [(5477, [1, 2, 7, 8, 9]), (3620, [1, 2, 4, 5]), (3602, [1, 2]), (0, [])])), [.inl 3, .inl 4, .inl 5, .inl 6, .inl 8, .inl 9, .inl 10], [([], 2), ([(9, -1)], 64), ([], 0)]), (280, ([some 0, none, some 2, some 3, some 4, some 5, some 6, none, some 7, some 8, some 9], [], [(.inr (some (.inl (false, 62))), none), (.inl (7, 63), none), (.inl (0, 55), none), (.inl (0, 7), none), (.inl (-7, 7), none), (.inl (-7, -1), none), (.inl (-98, 98), none), (.inl (-1, 1), none), (.inl (-1, -1), none), (.inl (1, 55), none)], ([], [], [([(2, 1), (4, -1)], 0), ([(2, 1), (7, -1)], 0), ([(2, -1), (9, 1)], -1)], [(5477, [1, 2, 7, 8, 9]), (3620, [1, 2, 4, 5]), (3602, [1, 2]), (0, [])])), [.inl 3, .inl 4, .inl 5, .inl 6, .inl 8, .inl 9, .inl 10], [([], 0), ([(9, 1)], 0), ([], 0)]), (280, ([some 0, none, some 2, some 3, some 4, some 5, some 6, none, some 7, some 8, some 9], [], [(.inr (some (.inl (false, 62))), none), (.inl (0, 62), none), (.inl (2, 63), none), (.inl (0, 7), none), (.inl (1, 7), none), (.inl (0, 0), none), (.inl (-98, 98), none), (.inl (1, 1), none), (.inl (0, 0), none), (.inl (1, 62), none)], ([], [], [([(2, 1), (9, -1)], -1)], [(5477, [1, 2, 7, 8, 9]), (3620, [1, 2, 4, 5]), (3602, [1, 2]), (0, [])])), [.inl 3, .inl 4, .inl 5, .inl 6, .inl 8, .inl 9, .inl 10], [([], 3), ([(9, -1)], 64), ([], 0)]), (280, ([some 0, none, some 2, some 3, some 4, some 5, some 6, none, some 7, some 8, some 9], [], [(.inr (some (.inl (false, 62))), none), (.inl (1, 63), none), (.inl (0, 61), none), (.inl (0, 7), none), (.inl (-7, -1), none), (.inl (0, 0), none), (.inl (-98, 98), none), (.inl (-1, -1), none), (.inl (0, 0), none), (.inl (1, 62), none)], ([], [], [([(2, -1), (9, 1)], -1)], [(5477, [1, 2, 7, 8, 9]), (3620, [1, 2, 4, 5]), (3602, [1, 2]), (0, [])])), [.inl 3, .inl 4, .inl 5, .inl 6, .inl 8, .inl 9, .inl 10], [([], 1), ([(9, 1)], 0), ([], 0)]), (0, aEn ag_MTgoesP, [], [([], 6), ([], 0), ([], 0)])])
theorem ac_MTgoesP_o : aOkc am_MTgoesP.2.1 am_MTgoesP.2.2.2.1 = true := by decide +kernel
theorem ac_MTgoesP_0 : ((am_MTgoesP.2.2.2.2.2.drop 0).take 1).all (aCk1 am_MTgoesP 64) = true := by rw [fs_Ck1]; decide +kernel
theorem ac_MTgoesP_1 : ((am_MTgoesP.2.2.2.2.2.drop 1).take 1).all (aCk1 am_MTgoesP 64) = true := by rw [fs_Ck1]; decide +kernel
theorem ac_MTgoesP_2 : ((am_MTgoesP.2.2.2.2.2.drop 2).take 1).all (aCk1 am_MTgoesP 64) = true := by rw [fs_Ck1]; decide +kernel
theorem ac_MTgoesP_3 : ((am_MTgoesP.2.2.2.2.2.drop 3).take 1).all (aCk1 am_MTgoesP 64) = true := by rw [fs_Ck1]; decide +kernel
theorem ac_MTgoesP_4 : ((am_MTgoesP.2.2.2.2.2.drop 4).take 1).all (aCk1 am_MTgoesP 64) = true := by rw [fs_Ck1]; decide +kernel
theorem ac_MTgoesP_5 : ((am_MTgoesP.2.2.2.2.2.drop 5).take 1).all (aCk1 am_MTgoesP 64) = true := by rw [fs_Ck1]; decide +kernel
theorem ac_MTgoesP_6 : ((am_MTgoesP.2.2.2.2.2.drop 6).take 1).all (aCk1 am_MTgoesP 64) = true := by rw [fs_Ck1]; decide +kernel
theorem ac_MTgoesP : aChk am_MTgoesP 64 = true := aChk_1 ac_MTgoesP_o (all_dr 0 1 1 rfl ac_MTgoesP_0 (all_dr 1 1 2 rfl ac_MTgoesP_1 (all_dr 2 1 3 rfl ac_MTgoesP_2 (all_dr 3 1 4 rfl ac_MTgoesP_3 (all_dr 4 1 5 rfl ac_MTgoesP_4 (all_dr 5 1 6 rfl ac_MTgoesP_5 (all_dr 6 1 7 rfl ac_MTgoesP_6 (show (am_MTgoesP.2.2.2.2.2.drop 7).all (aCk1 am_MTgoesP 64) = true from rfl))))))))
theorem ad_MTgoesP : aGd lw_tbl ag_MTgoesP := ⟨rfl, rfl, m_MT_goes, i_MT_goes, e_MT_goes⟩
theorem ae_MTgoesP (hJ : aJx K n fa_Pk JX) (hS : aShf F sh) (hD : aDp F K n fa_dep) (hD1 : aDp F K n ra_dep) (hD2 : aDp F K n rm_dep) (hh_rkRY0 : aGho F fa_T K n JX ag_rkRY0) (hh_rkRY1 : aGho F fa_T K n JX ag_rkRY1) (hh_rkRY2 : aGho F fa_T K n JX ag_rkRY2) (hh_rkRY3 : aGho F fa_T K n JX ag_rkRY3) (hh_rkRY4 : aGho F fa_T K n JX ag_rkRY4) (hh_rkRY5 : aGho F fa_T K n JX ag_rkRY5) (hh_rkRY6 : aGho F fa_T K n JX ag_rkRY6) (hh_rkRY7 : aGho F fa_T K n JX ag_rkRY7) (hh_rkRYnd : aGho F fa_T K n JX ag_rkRYnd) (hh_rkRYnu : aGho F fa_T K n JX ag_rkRYnu) (hh_rkRYq0 : aGho F fa_T K n JX ag_rkRYq0) (hh_rkRYq1 : aGho F fa_T K n JX ag_rkRYq1) (hh_rkRYq2 : aGho F fa_T K n JX ag_rkRYq2) (hh_rkRYq3 : aGho F fa_T K n JX ag_rkRYq3) (hh_rvKD : aGho F fa_T K n JX ag_rvKD) (hh_rvQID : aGho F fa_T K n JX ag_rvQID) (hh_rvST1 : aGho F fa_T K n JX ag_rvST1) (hh_rvSTna : aGho F fa_T K n JX ag_rvSTna) (hh_rvSTnb : aGho F fa_T K n JX ag_rvSTnb) (hh_rvSTnc : aGho F fa_T K n JX ag_rvSTnc) (hh_rvSTnd : aGho F fa_T K n JX ag_rvSTnd) (hh_rvTRI : aGho F fa_T K n JX ag_rvTRI) (hh_rvTRI0b : aGho F fa_T K n JX ag_rvTRI0b) (hh_rwFR : aGho F fa_T K n JX ag_rwFR) (hh_rwNEd : aGho F fa_T K n JX ag_rwNEd) (hh_rwNEu : aGho F fa_T K n JX ag_rwNEu) (hh_rwNZ : aGho F fa_T K n JX ag_rwNZ) (hh_rwRKa : aGho F fa_T K n JX ag_rwRKa) (hh_rwRKb : aGho F fa_T K n JX ag_rwRKb) (hh_rwRKd : aGho F fa_T K n JX ag_rwRKd) (hh_rwRM : aGho F fa_T K n JX ag_rwRM) (hh_rwRMa : aGho F fa_T K n JX ag_rwRMa) (hh_rwRMb : aGho F fa_T K n JX ag_rwRMb) (hh_rwSO0 : aGho F fa_T K n JX ag_rwSO0) (hh_rwSO1 : aGho F fa_T K n JX ag_rwSO1) : aMe F l E jcl jtb lw_tbl fa_T K n JX ag_MTgoesP := aMe_of (m := am_MTgoesP) (f := 64) rfl rfl rfl rfl rfl (by decide) (fun _ _ => jtF_ok) lo_MT (fun q h => by cases h) (aAllc (fun G h => by obtain rfl := Option.some.inj h; exact ql_MT_104) (aAllc (fun G h => by obtain rfl := Option.some.inj h; exact ql_MT_137) (aAllc (fun G h => by obtain rfl := Option.some.inj h; exact ql_MT_162) (aAllc (fun G h => by obtain rfl := Option.some.inj h; exact ql_MT_165) (aAllc (fun G h => by obtain rfl := Option.some.inj h; exact ql_MT_168) (fun q h => by cases h)))))) jC (aAllc ⟨ad_MTmayCastle, ae_MTmayCastle hJ hS hD⟩ (aAllc ⟨ad_MTpawnGoes, ae_MTpawnGoes hJ hS hD⟩ (aAllc ⟨ad_MTstepX, ae_MTstepX hJ hS hD hD1 hh_rvQID hh_rvST1 hh_rvSTna hh_rvSTnb hh_rvSTnc hh_rvSTnd⟩ (aAllc ⟨ad_MTkindX, ae_MTkindX hJ hS hD hD1 hh_rvKD⟩ (aAllc ⟨ad_MTsideOfX, ae_MTsideOfX hJ hS hD hD1 hh_rwSO0 hh_rwSO1⟩ (fun G h => by cases h)))))) (aAllc hh_rvTRI (aAllc hh_rwNEu (aAllc hh_rwNEd (aAllc hh_rwRM (aAllc hh_rwRMa (aAllc hh_rwRMb (aAllc hh_rwRKd (aAllc hh_rwRKa (aAllc hh_rwRKb (aAllc hh_rwFR (aAllc hh_rvTRI0b (aAllc hh_rkRY4 (aAllc hh_rkRYq0 (aAllc hh_rkRY2 (aAllc hh_rkRYq2 (aAllc hh_rkRY6 (aAllc hh_rkRYq1 (aAllc hh_rkRY0 (aAllc hh_rkRY1 (aAllc hh_rwNZ (aAllc hh_rkRY7 (aAllc hh_rkRY3 (aAllc hh_rkRYq3 (aAllc hh_rkRY5 (aAllc hh_rkRYnd (aAllc hh_rkRYnu (fun G h => by cases h))))))))))))))))))))))))))) fa_tb hJ hS hD2 ao_MTgoesP ac_MTgoesP (List.mem_of_getElem? (i := 6) rfl)
end FA
end
