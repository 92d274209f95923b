/-! the reference: what its facts look at -/
theorem rs_22 {K : Nat → Nat} {n : Nat} {p : rP} {vs : List jv} {j : Nat} {σ σ' : Nat → jcell} (h : ∀ a, a < n → ∀ q ∈ ra_dep.getD 22 [], q.1 = K a → aSm vs q (σ a) (σ' a)) (hb : rb_22 K n p (vs.take j) σ) : rb_22 K n p (vs.take j) σ' := by
  have m0 : ((88, [2, 3, 4, 5], none) : aDe) ∈ ra_dep.getD 22 [] := List.mem_of_getElem? (i := 0) rfl
  have m1 : ((90, [], none) : aDe) ∈ ra_dep.getD 22 [] := List.mem_of_getElem? (i := 1) rfl
  obtain ⟨a0, hl, hb⟩ := rC_r_e hb
  rw [hl]
  have hb : p.2 = none ∧ rRX K n σ a0 p.1 := hb
  have r9 : p.2 = none ∧ rRX K n σ' a0 p.1 := by
    obtain ⟨hp, h1, ⟨v1, o1, e1⟩, ⟨v2, o2, e2⟩, ⟨v3, o3, e3⟩⟩ := hb
    exact ⟨hp, (rMg_st h m0 (by decide) m1 h1), ⟨v1, (rOb_st h m0 (by decide) o1), e1⟩, ⟨v2, (rOb_st h m0 (by decide) o2), e2⟩, ⟨v3, (rOb_st h m0 (by decide) o3), e3⟩⟩
  exact r9
theorem rs_23 {K : Nat → Nat} {n : Nat} {p : rP} {vs : List jv} {j : Nat} {σ σ' : Nat → jcell} (h : ∀ a, a < n → ∀ q ∈ ra_dep.getD 23 [], q.1 = K a → aSm vs q (σ a) (σ' a)) (hb : rb_23 K n p (vs.take j) σ) : rb_23 K n p (vs.take j) σ' := by
  have m0 : ((88, [15, 16, 17, 18, 19], none) : aDe) ∈ ra_dep.getD 23 [] := List.mem_of_getElem? (i := 0) rfl
  have m1 : ((97, [], some ([], 1)) : aDe) ∈ ra_dep.getD 23 [] := List.mem_of_getElem? (i := 1) rfl
  have m2 : ((98, [], some ([], 1)) : aDe) ∈ ra_dep.getD 23 [] := List.mem_of_getElem? (i := 2) rfl
  have m3 : ((99, [], some ([], 1)) : aDe) ∈ ra_dep.getD 23 [] := List.mem_of_getElem? (i := 3) rfl
  have m4 : ((100, [], some ([], 1)) : aDe) ∈ ra_dep.getD 23 [] := List.mem_of_getElem? (i := 4) rfl
  have m5 : ((101, [], some ([], 1)) : aDe) ∈ ra_dep.getD 23 [] := List.mem_of_getElem? (i := 5) rfl
  obtain ⟨a0, a1, hl, hb⟩ := rC_ri_e hb
  rw [hl]
  have hb : p.2 = none ∧ rUD K n σ a0 0 p.1 a1.toInt := hb
  have r9 : p.2 = none ∧ rUD K n σ' a0 0 p.1 a1.toInt := by
    obtain ⟨hp, h0, ⟨g1, r1, e1⟩, ⟨g2, r2, e2⟩, ⟨g3, r3, e3⟩, ⟨g4, r4, e4⟩, ⟨g5, r5, e5⟩⟩ := hb
    obtain ⟨n1g, n1, n1e⟩ := rRo_sb h m0 (by decide) m1 (b := 1) (fun x hx => rVa0 hx) r1
    obtain ⟨n2g, n2, n2e⟩ := rRo_sb h m0 (by decide) m2 (b := 1) (fun x hx => rVa0 hx) r2
    obtain ⟨n3g, n3, n3e⟩ := rRo_sb h m0 (by decide) m3 (b := 1) (fun x hx => rVa0 hx) r3
    obtain ⟨n4g, n4, n4e⟩ := rRo_sb h m0 (by decide) m4 (b := 1) (fun x hx => rVa0 hx) r4
    obtain ⟨n5g, n5, n5e⟩ := rRo_sb h m0 (by decide) m5 (b := 1) (fun x hx => rVa0 hx) r5
    exact ⟨hp, h0, ⟨n1g, n1, by rw [n1e _ (by omega)]; exact e1⟩, ⟨n2g, n2, by rw [n2e _ (by omega)]; exact e2⟩, ⟨n3g, n3, by rw [n3e _ (by omega)]; exact e3⟩, ⟨n4g, n4, by rw [n4e _ (by omega)]; exact e4⟩, ⟨n5g, n5, by rw [n5e _ (by omega)]; exact e5⟩⟩
  exact r9
theorem rs_24 {K : Nat → Nat} {n : Nat} {p : rP} {vs : List jv} {j : Nat} {σ σ' : Nat → jcell} (h : ∀ a, a < n → ∀ q ∈ ra_dep.getD 24 [], q.1 = K a → aSm vs q (σ a) (σ' a)) (hb : rb_24 K n p (vs.take j) σ) : rb_24 K n p (vs.take j) σ' := by
  exact hb
theorem rs_25 {K : Nat → Nat} {n : Nat} {p : rP} {vs : List jv} {j : Nat} {σ σ' : Nat → jcell} (h : ∀ a, a < n → ∀ q ∈ ra_dep.getD 25 [], q.1 = K a → aSm vs q (σ a) (σ' a)) (hb : rb_25 K n p (vs.take j) σ) : rb_25 K n p (vs.take j) σ' := by
  exact hb
theorem rs_26 {K : Nat → Nat} {n : Nat} {p : rP} {vs : List jv} {j : Nat} {σ σ' : Nat → jcell} (h : ∀ a, a < n → ∀ q ∈ ra_dep.getD 26 [], q.1 = K a → aSm vs q (σ a) (σ' a)) (hb : rb_26 K n p (vs.take j) σ) : rb_26 K n p (vs.take j) σ' := by
  have m0 : ((88, [15, 16, 17, 18, 19], none) : aDe) ∈ ra_dep.getD 26 [] := List.mem_of_getElem? (i := 0) rfl
  have m1 : ((97, [], some ([], 2)) : aDe) ∈ ra_dep.getD 26 [] := List.mem_of_getElem? (i := 1) rfl
  have m2 : ((98, [], some ([], 2)) : aDe) ∈ ra_dep.getD 26 [] := List.mem_of_getElem? (i := 2) rfl
  have m3 : ((99, [], some ([], 2)) : aDe) ∈ ra_dep.getD 26 [] := List.mem_of_getElem? (i := 3) rfl
  have m4 : ((100, [], some ([], 2)) : aDe) ∈ ra_dep.getD 26 [] := List.mem_of_getElem? (i := 4) rfl
  have m5 : ((101, [], some ([], 2)) : aDe) ∈ ra_dep.getD 26 [] := List.mem_of_getElem? (i := 5) rfl
  obtain ⟨a0, a1, hl, hb⟩ := rC_ri_e hb
  rw [hl]
  have hb : p.2 = none ∧ rUD K n σ a0 1 p.1 a1.toInt := hb
  have r9 : p.2 = none ∧ rUD K n σ' a0 1 p.1 a1.toInt := by
    obtain ⟨hp, h0, ⟨g1, r1, e1⟩, ⟨g2, r2, e2⟩, ⟨g3, r3, e3⟩, ⟨g4, r4, e4⟩, ⟨g5, r5, e5⟩⟩ := hb
    obtain ⟨n1g, n1, n1e⟩ := rRo_sb h m0 (by decide) m1 (b := 2) (fun x hx => rVa0 hx) r1
    obtain ⟨n2g, n2, n2e⟩ := rRo_sb h m0 (by decide) m2 (b := 2) (fun x hx => rVa0 hx) r2
    obtain ⟨n3g, n3, n3e⟩ := rRo_sb h m0 (by decide) m3 (b := 2) (fun x hx => rVa0 hx) r3
    obtain ⟨n4g, n4, n4e⟩ := rRo_sb h m0 (by decide) m4 (b := 2) (fun x hx => rVa0 hx) r4
    obtain ⟨n5g, n5, n5e⟩ := rRo_sb h m0 (by decide) m5 (b := 2) (fun x hx => rVa0 hx) r5
    exact ⟨hp, h0, ⟨n1g, n1, by rw [n1e _ (by omega)]; exact e1⟩, ⟨n2g, n2, by rw [n2e _ (by omega)]; exact e2⟩, ⟨n3g, n3, by rw [n3e _ (by omega)]; exact e3⟩, ⟨n4g, n4, by rw [n4e _ (by omega)]; exact e4⟩, ⟨n5g, n5, by rw [n5e _ (by omega)]; exact e5⟩⟩
  exact r9
theorem rs_27 {K : Nat → Nat} {n : Nat} {p : rP} {vs : List jv} {j : Nat} {σ σ' : Nat → jcell} (h : ∀ a, a < n → ∀ q ∈ ra_dep.getD 27 [], q.1 = K a → aSm vs q (σ a) (σ' a)) (hb : rb_27 K n p (vs.take j) σ) : rb_27 K n p (vs.take j) σ' := by
  have m0 : ((88, [15, 16, 17, 18, 19], none) : aDe) ∈ ra_dep.getD 27 [] := List.mem_of_getElem? (i := 0) rfl
  have m1 : ((97, [], some ([], 3)) : aDe) ∈ ra_dep.getD 27 [] := List.mem_of_getElem? (i := 1) rfl
  have m2 : ((98, [], some ([], 3)) : aDe) ∈ ra_dep.getD 27 [] := List.mem_of_getElem? (i := 2) rfl
  have m3 : ((99, [], some ([], 3)) : aDe) ∈ ra_dep.getD 27 [] := List.mem_of_getElem? (i := 3) rfl
  have m4 : ((100, [], some ([], 3)) : aDe) ∈ ra_dep.getD 27 [] := List.mem_of_getElem? (i := 4) rfl
  have m5 : ((101, [], some ([], 3)) : aDe) ∈ ra_dep.getD 27 [] := List.mem_of_getElem? (i := 5) rfl
  obtain ⟨a0, a1, hl, hb⟩ := rC_ri_e hb
  rw [hl]
  have hb : p.2 = none ∧ rUD K n σ a0 2 p.1 a1.toInt := hb
  have r9 : p.2 = none ∧ rUD K n σ' a0 2 p.1 a1.toInt := by
    obtain ⟨hp, h0, ⟨g1, r1, e1⟩, ⟨g2, r2, e2⟩, ⟨g3, r3, e3⟩, ⟨g4, r4, e4⟩, ⟨g5, r5, e5⟩⟩ := hb
    obtain ⟨n1g, n1, n1e⟩ := rRo_sb h m0 (by decide) m1 (b := 3) (fun x hx => rVa0 hx) r1
    obtain ⟨n2g, n2, n2e⟩ := rRo_sb h m0 (by decide) m2 (b := 3) (fun x hx => rVa0 hx) r2
    obtain ⟨n3g, n3, n3e⟩ := rRo_sb h m0 (by decide) m3 (b := 3) (fun x hx => rVa0 hx) r3
    obtain ⟨n4g, n4, n4e⟩ := rRo_sb h m0 (by decide) m4 (b := 3) (fun x hx => rVa0 hx) r4
    obtain ⟨n5g, n5, n5e⟩ := rRo_sb h m0 (by decide) m5 (b := 3) (fun x hx => rVa0 hx) r5
    exact ⟨hp, h0, ⟨n1g, n1, by rw [n1e _ (by omega)]; exact e1⟩, ⟨n2g, n2, by rw [n2e _ (by omega)]; exact e2⟩, ⟨n3g, n3, by rw [n3e _ (by omega)]; exact e3⟩, ⟨n4g, n4, by rw [n4e _ (by omega)]; exact e4⟩, ⟨n5g, n5, by rw [n5e _ (by omega)]; exact e5⟩⟩
  exact r9
theorem rs_28 {K : Nat → Nat} {n : Nat} {p : rP} {vs : List jv} {j : Nat} {σ σ' : Nat → jcell} (h : ∀ a, a < n → ∀ q ∈ ra_dep.getD 28 [], q.1 = K a → aSm vs q (σ a) (σ' a)) (hb : rb_28 K n p (vs.take j) σ) : rb_28 K n p (vs.take j) σ' := by
  have m0 : ((88, [15, 16, 17, 18, 19], none) : aDe) ∈ ra_dep.getD 28 [] := List.mem_of_getElem? (i := 0) rfl
  have m1 : ((97, [], some ([(1, 1)], 1)) : aDe) ∈ ra_dep.getD 28 [] := List.mem_of_getElem? (i := 1) rfl
  have m2 : ((98, [], some ([(1, 1)], 1)) : aDe) ∈ ra_dep.getD 28 [] := List.mem_of_getElem? (i := 2) rfl
  have m3 : ((99, [], some ([(1, 1)], 1)) : aDe) ∈ ra_dep.getD 28 [] := List.mem_of_getElem? (i := 3) rfl
  have m4 : ((100, [], some ([(1, 1)], 1)) : aDe) ∈ ra_dep.getD 28 [] := List.mem_of_getElem? (i := 4) rfl
  have m5 : ((101, [], some ([(1, 1)], 1)) : aDe) ∈ ra_dep.getD 28 [] := List.mem_of_getElem? (i := 5) rfl
  obtain ⟨a0, a1, a2, hl, hb⟩ := rC_rii_e hb
  rw [hl]
  have hb : p.2 = none ∧ rUD K n σ a0 a1.toInt p.1 a2.toInt := hb
  have r9 : p.2 = none ∧ rUD K n σ' a0 a1.toInt p.1 a2.toInt := by
    obtain ⟨hp, h0, ⟨g1, r1, e1⟩, ⟨g2, r2, e2⟩, ⟨g3, r3, e3⟩, ⟨g4, r4, e4⟩, ⟨g5, r5, e5⟩⟩ := hb
    obtain ⟨n1g, n1, n1e⟩ := rRo_sb h m0 (by decide) m1 (b := (1 * a1.toInt + 1)) (fun x hx => rVa1 (x := a1) hx (rTak (j := j) (by rw [hl]; rfl))) r1
    obtain ⟨n2g, n2, n2e⟩ := rRo_sb h m0 (by decide) m2 (b := (1 * a1.toInt + 1)) (fun x hx => rVa1 (x := a1) hx (rTak (j := j) (by rw [hl]; rfl))) r2
    obtain ⟨n3g, n3, n3e⟩ := rRo_sb h m0 (by decide) m3 (b := (1 * a1.toInt + 1)) (fun x hx => rVa1 (x := a1) hx (rTak (j := j) (by rw [hl]; rfl))) r3
    obtain ⟨n4g, n4, n4e⟩ := rRo_sb h m0 (by decide) m4 (b := (1 * a1.toInt + 1)) (fun x hx => rVa1 (x := a1) hx (rTak (j := j) (by rw [hl]; rfl))) r4
    obtain ⟨n5g, n5, n5e⟩ := rRo_sb h m0 (by decide) m5 (b := (1 * a1.toInt + 1)) (fun x hx => rVa1 (x := a1) hx (rTak (j := j) (by rw [hl]; rfl))) r5
    exact ⟨hp, h0, ⟨n1g, n1, by rw [n1e _ (by omega)]; exact e1⟩, ⟨n2g, n2, by rw [n2e _ (by omega)]; exact e2⟩, ⟨n3g, n3, by rw [n3e _ (by omega)]; exact e3⟩, ⟨n4g, n4, by rw [n4e _ (by omega)]; exact e4⟩, ⟨n5g, n5, by rw [n5e _ (by omega)]; exact e5⟩⟩
  exact r9
theorem rs_29 {K : Nat → Nat} {n : Nat} {p : rP} {vs : List jv} {j : Nat} {σ σ' : Nat → jcell} (h : ∀ a, a < n → ∀ q ∈ ra_dep.getD 29 [], q.1 = K a → aSm vs q (σ a) (σ' a)) (hb : rb_29 K n p (vs.take j) σ) : rb_29 K n p (vs.take j) σ' := by
  exact hb
theorem rs_30 {K : Nat → Nat} {n : Nat} {p : rP} {vs : List jv} {j : Nat} {σ σ' : Nat → jcell} (h : ∀ a, a < n → ∀ q ∈ ra_dep.getD 30 [], q.1 = K a → aSm vs q (σ a) (σ' a)) (hb : rb_30 K n p (vs.take j) σ) : rb_30 K n p (vs.take j) σ' := by
  exact hb
theorem rs_31 {K : Nat → Nat} {n : Nat} {p : rP} {vs : List jv} {j : Nat} {σ σ' : Nat → jcell} (h : ∀ a, a < n → ∀ q ∈ ra_dep.getD 31 [], q.1 = K a → aSm vs q (σ a) (σ' a)) (hb : rb_31 K n p (vs.take j) σ) : rb_31 K n p (vs.take j) σ' := by
  exact hb
theorem rs_32 {K : Nat → Nat} {n : Nat} {p : rP} {vs : List jv} {j : Nat} {σ σ' : Nat → jcell} (h : ∀ a, a < n → ∀ q ∈ ra_dep.getD 32 [], q.1 = K a → aSm vs q (σ a) (σ' a)) (hb : rb_32 K n p (vs.take j) σ) : rb_32 K n p (vs.take j) σ' := by
  exact hb
theorem rs_33 {K : Nat → Nat} {n : Nat} {p : rP} {vs : List jv} {j : Nat} {σ σ' : Nat → jcell} (h : ∀ a, a < n → ∀ q ∈ ra_dep.getD 33 [], q.1 = K a → aSm vs q (σ a) (σ' a)) (hb : rb_33 K n p (vs.take j) σ) : rb_33 K n p (vs.take j) σ' := by
  exact hb
theorem rs_34 {K : Nat → Nat} {n : Nat} {p : rP} {vs : List jv} {j : Nat} {σ σ' : Nat → jcell} (h : ∀ a, a < n → ∀ q ∈ ra_dep.getD 34 [], q.1 = K a → aSm vs q (σ a) (σ' a)) (hb : rb_34 K n p (vs.take j) σ) : rb_34 K n p (vs.take j) σ' := by
  exact hb
theorem rs_35 {K : Nat → Nat} {n : Nat} {p : rP} {vs : List jv} {j : Nat} {σ σ' : Nat → jcell} (h : ∀ a, a < n → ∀ q ∈ ra_dep.getD 35 [], q.1 = K a → aSm vs q (σ a) (σ' a)) (hb : rb_35 K n p (vs.take j) σ) : rb_35 K n p (vs.take j) σ' := by
  exact hb
theorem rs_36 {K : Nat → Nat} {n : Nat} {p : rP} {vs : List jv} {j : Nat} {σ σ' : Nat → jcell} (h : ∀ a, a < n → ∀ q ∈ ra_dep.getD 36 [], q.1 = K a → aSm vs q (σ a) (σ' a)) (hb : rb_36 K n p (vs.take j) σ) : rb_36 K n p (vs.take j) σ' := by
  exact hb
theorem rs_37 {K : Nat → Nat} {n : Nat} {p : rP} {vs : List jv} {j : Nat} {σ σ' : Nat → jcell} (h : ∀ a, a < n → ∀ q ∈ ra_dep.getD 37 [], q.1 = K a → aSm vs q (σ a) (σ' a)) (hb : rb_37 K n p (vs.take j) σ) : rb_37 K n p (vs.take j) σ' := by
  exact hb
theorem rs_38 {K : Nat → Nat} {n : Nat} {p : rP} {vs : List jv} {j : Nat} {σ σ' : Nat → jcell} (h : ∀ a, a < n → ∀ q ∈ ra_dep.getD 38 [], q.1 = K a → aSm vs q (σ a) (σ' a)) (hb : rb_38 K n p (vs.take j) σ) : rb_38 K n p (vs.take j) σ' := by
  exact hb
theorem rs_39 {K : Nat → Nat} {n : Nat} {p : rP} {vs : List jv} {j : Nat} {σ σ' : Nat → jcell} (h : ∀ a, a < n → ∀ q ∈ ra_dep.getD 39 [], q.1 = K a → aSm vs q (σ a) (σ' a)) (hb : rb_39 K n p (vs.take j) σ) : rb_39 K n p (vs.take j) σ' := by
  exact hb
theorem rs_40 {K : Nat → Nat} {n : Nat} {p : rP} {vs : List jv} {j : Nat} {σ σ' : Nat → jcell} (h : ∀ a, a < n → ∀ q ∈ ra_dep.getD 40 [], q.1 = K a → aSm vs q (σ a) (σ' a)) (hb : rb_40 K n p (vs.take j) σ) : rb_40 K n p (vs.take j) σ' := by
  exact hb
theorem rs_41 {K : Nat → Nat} {n : Nat} {p : rP} {vs : List jv} {j : Nat} {σ σ' : Nat → jcell} (h : ∀ a, a < n → ∀ q ∈ ra_dep.getD 41 [], q.1 = K a → aSm vs q (σ a) (σ' a)) (hb : rb_41 K n p (vs.take j) σ) : rb_41 K n p (vs.take j) σ' := by
  exact hb
theorem rs_42 {K : Nat → Nat} {n : Nat} {p : rP} {vs : List jv} {j : Nat} {σ σ' : Nat → jcell} (h : ∀ a, a < n → ∀ q ∈ ra_dep.getD 42 [], q.1 = K a → aSm vs q (σ a) (σ' a)) (hb : rb_42 K n p (vs.take j) σ) : rb_42 K n p (vs.take j) σ' := by
  exact hb
theorem rs_43 {K : Nat → Nat} {n : Nat} {p : rP} {vs : List jv} {j : Nat} {σ σ' : Nat → jcell} (h : ∀ a, a < n → ∀ q ∈ ra_dep.getD 43 [], q.1 = K a → aSm vs q (σ a) (σ' a)) (hb : rb_43 K n p (vs.take j) σ) : rb_43 K n p (vs.take j) σ' := by
  exact hb
theorem rs_45 {K : Nat → Nat} {n : Nat} {p : rP} {vs : List jv} {j : Nat} {σ σ' : Nat → jcell} (h : ∀ a, a < n → ∀ q ∈ ra_dep.getD 45 [], q.1 = K a → aSm vs q (σ a) (σ' a)) (hb : rb_45 K n p (vs.take j) σ) : rb_45 K n p (vs.take j) σ' := by
  exact hb
theorem rs_46 {K : Nat → Nat} {n : Nat} {p : rP} {vs : List jv} {j : Nat} {σ σ' : Nat → jcell} (h : ∀ a, a < n → ∀ q ∈ ra_dep.getD 46 [], q.1 = K a → aSm vs q (σ a) (σ' a)) (hb : rb_46 K n p (vs.take j) σ) : rb_46 K n p (vs.take j) σ' := by
  exact hb
theorem rs_47 {K : Nat → Nat} {n : Nat} {p : rP} {vs : List jv} {j : Nat} {σ σ' : Nat → jcell} (h : ∀ a, a < n → ∀ q ∈ ra_dep.getD 47 [], q.1 = K a → aSm vs q (σ a) (σ' a)) (hb : rb_47 K n p (vs.take j) σ) : rb_47 K n p (vs.take j) σ' := by
  exact hb
theorem rs_48 {K : Nat → Nat} {n : Nat} {p : rP} {vs : List jv} {j : Nat} {σ σ' : Nat → jcell} (h : ∀ a, a < n → ∀ q ∈ ra_dep.getD 48 [], q.1 = K a → aSm vs q (σ a) (σ' a)) (hb : rb_48 K n p (vs.take j) σ) : rb_48 K n p (vs.take j) σ' := by
  have m0 : ((88, [15, 16, 17, 18, 19], none) : aDe) ∈ ra_dep.getD 48 [] := List.mem_of_getElem? (i := 0) rfl
  have m1 : ((97, [], some ([], 4)) : aDe) ∈ ra_dep.getD 48 [] := List.mem_of_getElem? (i := 1) rfl
  have m2 : ((98, [], some ([], 4)) : aDe) ∈ ra_dep.getD 48 [] := List.mem_of_getElem? (i := 2) rfl
  have m3 : ((99, [], some ([], 4)) : aDe) ∈ ra_dep.getD 48 [] := List.mem_of_getElem? (i := 3) rfl
  have m4 : ((100, [], some ([], 4)) : aDe) ∈ ra_dep.getD 48 [] := List.mem_of_getElem? (i := 4) rfl
  have m5 : ((101, [], some ([], 4)) : aDe) ∈ ra_dep.getD 48 [] := List.mem_of_getElem? (i := 5) rfl
  obtain ⟨a0, a1, hl, hb⟩ := rC_ri_e hb
  rw [hl]
  have hb : p.2 = none ∧ rUD K n σ a0 3 p.1 a1.toInt := hb
  have r9 : p.2 = none ∧ rUD K n σ' a0 3 p.1 a1.toInt := by
    obtain ⟨hp, h0, ⟨g1, r1, e1⟩, ⟨g2, r2, e2⟩, ⟨g3, r3, e3⟩, ⟨g4, r4, e4⟩, ⟨g5, r5, e5⟩⟩ := hb
    obtain ⟨n1g, n1, n1e⟩ := rRo_sb h m0 (by decide) m1 (b := 4) (fun x hx => rVa0 hx) r1
    obtain ⟨n2g, n2, n2e⟩ := rRo_sb h m0 (by decide) m2 (b := 4) (fun x hx => rVa0 hx) r2
    obtain ⟨n3g, n3, n3e⟩ := rRo_sb h m0 (by decide) m3 (b := 4) (fun x hx => rVa0 hx) r3
    obtain ⟨n4g, n4, n4e⟩ := rRo_sb h m0 (by decide) m4 (b := 4) (fun x hx => rVa0 hx) r4
    obtain ⟨n5g, n5, n5e⟩ := rRo_sb h m0 (by decide) m5 (b := 4) (fun x hx => rVa0 hx) r5
    exact ⟨hp, h0, ⟨n1g, n1, by rw [n1e _ (by omega)]; exact e1⟩, ⟨n2g, n2, by rw [n2e _ (by omega)]; exact e2⟩, ⟨n3g, n3, by rw [n3e _ (by omega)]; exact e3⟩, ⟨n4g, n4, by rw [n4e _ (by omega)]; exact e4⟩, ⟨n5g, n5, by rw [n5e _ (by omega)]; exact e5⟩⟩
  exact r9
theorem rs_49 {K : Nat → Nat} {n : Nat} {p : rP} {vs : List jv} {j : Nat} {σ σ' : Nat → jcell} (h : ∀ a, a < n → ∀ q ∈ ra_dep.getD 49 [], q.1 = K a → aSm vs q (σ a) (σ' a)) (hb : rb_49 K n p (vs.take j) σ) : rb_49 K n p (vs.take j) σ' := by
  have m0 : ((88, [21, 22], none) : aDe) ∈ ra_dep.getD 49 [] := List.mem_of_getElem? (i := 0) rfl
  have m1 : ((103, [], some ([], 2048)) : aDe) ∈ ra_dep.getD 49 [] := List.mem_of_getElem? (i := 1) rfl
  have m2 : ((104, [], some ([], 1)) : aDe) ∈ ra_dep.getD 49 [] := List.mem_of_getElem? (i := 2) rfl
  obtain ⟨a0, hl, hb⟩ := rC_r_e hb
  rw [hl]
  have hb : p.2 = none ∧ ∃ c, 1 ≤ c ∧ c ≤ 2048 ∧ rCT K n σ a0 0 c ∧ rLF K n σ a0 0 c p.1 := hb
  have r9 : p.2 = none ∧ ∃ c, 1 ≤ c ∧ c ≤ 2048 ∧ rCT K n σ' a0 0 c ∧ rLF K n σ' a0 0 c p.1 := by
    obtain ⟨hp, c, hc1, hc, ⟨h0, g0, r0, e0⟩, g, r1, kk⟩ := hb
    obtain ⟨n0g, n0, n0e⟩ := rRo_sb h m0 (by decide) m2 (b := 1) (fun x hx => rVa0 hx) r0
    obtain ⟨n1g, n1, n1e⟩ := rRo_sb h m0 (by decide) m1 (b := 2048) (fun x hx => rVa0 hx) r1
    exact ⟨hp, c, hc1, hc, ⟨h0, n0g, n0, by rw [n0e _ (by omega)]; exact e0⟩, n1g, n1, fun hf j j1 j2 => by rw [n1e _ (by omega)]; exact kk hf j j1 j2⟩
  exact r9
theorem rs_50 {K : Nat → Nat} {n : Nat} {p : rP} {vs : List jv} {j : Nat} {σ σ' : Nat → jcell} (h : ∀ a, a < n → ∀ q ∈ ra_dep.getD 50 [], q.1 = K a → aSm vs q (σ a) (σ' a)) (hb : rb_50 K n p (vs.take j) σ) : rb_50 K n p (vs.take j) σ' := by
  have m0 : ((88, [2], none) : aDe) ∈ ra_dep.getD 50 [] := List.mem_of_getElem? (i := 0) rfl
  have m1 : ((90, [], none) : aDe) ∈ ra_dep.getD 50 [] := List.mem_of_getElem? (i := 1) rfl
  obtain ⟨a0, a1, hl, hb⟩ := rC_ri_e hb
  rw [hl]
  obtain ⟨M, h1, h2⟩ := hb
  exact ⟨M, (rMg_st h m0 (by decide) m1 h1), h2⟩
theorem rs_51 {K : Nat → Nat} {n : Nat} {p : rP} {vs : List jv} {j : Nat} {σ σ' : Nat → jcell} (h : ∀ a, a < n → ∀ q ∈ ra_dep.getD 51 [], q.1 = K a → aSm vs q (σ a) (σ' a)) (hb : rb_51 K n p (vs.take j) σ) : rb_51 K n p (vs.take j) σ' := by
  have m0 : ((88, [2], none) : aDe) ∈ ra_dep.getD 51 [] := List.mem_of_getElem? (i := 0) rfl
  have m1 : ((90, [], none) : aDe) ∈ ra_dep.getD 51 [] := List.mem_of_getElem? (i := 1) rfl
  obtain ⟨a0, a1, hl, hb⟩ := rC_ri_e hb
  rw [hl]
  obtain ⟨M, h1, h2⟩ := hb
  exact ⟨M, (rMg_st h m0 (by decide) m1 h1), h2⟩
theorem rs_52 {K : Nat → Nat} {n : Nat} {p : rP} {vs : List jv} {j : Nat} {σ σ' : Nat → jcell} (h : ∀ a, a < n → ∀ q ∈ ra_dep.getD 52 [], q.1 = K a → aSm vs q (σ a) (σ' a)) (hb : rb_52 K n p (vs.take j) σ) : rb_52 K n p (vs.take j) σ' := by
  have m0 : ((88, [2], none) : aDe) ∈ ra_dep.getD 52 [] := List.mem_of_getElem? (i := 0) rfl
  have m1 : ((90, [], none) : aDe) ∈ ra_dep.getD 52 [] := List.mem_of_getElem? (i := 1) rfl
  obtain ⟨a0, a1, hl, hb⟩ := rC_ri_e hb
  rw [hl]
  obtain ⟨M, h1, h2⟩ := hb
  exact ⟨M, (rMg_st h m0 (by decide) m1 h1), h2⟩
theorem rs_53 {K : Nat → Nat} {n : Nat} {p : rP} {vs : List jv} {j : Nat} {σ σ' : Nat → jcell} (h : ∀ a, a < n → ∀ q ∈ ra_dep.getD 53 [], q.1 = K a → aSm vs q (σ a) (σ' a)) (hb : rb_53 K n p (vs.take j) σ) : rb_53 K n p (vs.take j) σ' := by
  have m0 : ((88, [2], none) : aDe) ∈ ra_dep.getD 53 [] := List.mem_of_getElem? (i := 0) rfl
  have m1 : ((90, [], none) : aDe) ∈ ra_dep.getD 53 [] := List.mem_of_getElem? (i := 1) rfl
  obtain ⟨a0, a1, hl, hb⟩ := rC_ri_e hb
  rw [hl]
  obtain ⟨M, h1, h2⟩ := hb
  exact ⟨M, (rMg_st h m0 (by decide) m1 h1), h2⟩
theorem rs_54 {K : Nat → Nat} {n : Nat} {p : rP} {vs : List jv} {j : Nat} {σ σ' : Nat → jcell} (h : ∀ a, a < n → ∀ q ∈ ra_dep.getD 54 [], q.1 = K a → aSm vs q (σ a) (σ' a)) (hb : rb_54 K n p (vs.take j) σ) : rb_54 K n p (vs.take j) σ' := by
  have m0 : ((88, [2], none) : aDe) ∈ ra_dep.getD 54 [] := List.mem_of_getElem? (i := 0) rfl
  have m1 : ((90, [], none) : aDe) ∈ ra_dep.getD 54 [] := List.mem_of_getElem? (i := 1) rfl
  obtain ⟨a0, a1, a2, hl, hb⟩ := rC_rii_e hb
  rw [hl]
  obtain ⟨M, h1, h2⟩ := hb
  exact ⟨M, (rMg_st h m0 (by decide) m1 h1), h2⟩
theorem rs_55 {K : Nat → Nat} {n : Nat} {p : rP} {vs : List jv} {j : Nat} {σ σ' : Nat → jcell} (h : ∀ a, a < n → ∀ q ∈ ra_dep.getD 55 [], q.1 = K a → aSm vs q (σ a) (σ' a)) (hb : rb_55 K n p (vs.take j) σ) : rb_55 K n p (vs.take j) σ' := by
  have m0 : ((88, [2], none) : aDe) ∈ ra_dep.getD 55 [] := List.mem_of_getElem? (i := 0) rfl
  have m1 : ((90, [], none) : aDe) ∈ ra_dep.getD 55 [] := List.mem_of_getElem? (i := 1) rfl
  obtain ⟨a0, a1, a2, hl, hb⟩ := rC_rii_e hb
  rw [hl]
  obtain ⟨M, h1, h2⟩ := hb
  exact ⟨M, (rMg_st h m0 (by decide) m1 h1), h2⟩
theorem rs_56 {K : Nat → Nat} {n : Nat} {p : rP} {vs : List jv} {j : Nat} {σ σ' : Nat → jcell} (h : ∀ a, a < n → ∀ q ∈ ra_dep.getD 56 [], q.1 = K a → aSm vs q (σ a) (σ' a)) (hb : rb_56 K n p (vs.take j) σ) : rb_56 K n p (vs.take j) σ' := by
  have m0 : ((88, [2], none) : aDe) ∈ ra_dep.getD 56 [] := List.mem_of_getElem? (i := 0) rfl
  have m1 : ((90, [], none) : aDe) ∈ ra_dep.getD 56 [] := List.mem_of_getElem? (i := 1) rfl
  obtain ⟨a0, a1, a2, hl, hb⟩ := rC_rii_e hb
  rw [hl]
  obtain ⟨M, h1, h2⟩ := hb
  exact ⟨M, (rMg_st h m0 (by decide) m1 h1), h2⟩
theorem rs_57 {K : Nat → Nat} {n : Nat} {p : rP} {vs : List jv} {j : Nat} {σ σ' : Nat → jcell} (h : ∀ a, a < n → ∀ q ∈ ra_dep.getD 57 [], q.1 = K a → aSm vs q (σ a) (σ' a)) (hb : rb_57 K n p (vs.take j) σ) : rb_57 K n p (vs.take j) σ' := by
  have m0 : ((88, [2], none) : aDe) ∈ ra_dep.getD 57 [] := List.mem_of_getElem? (i := 0) rfl
  have m1 : ((90, [], none) : aDe) ∈ ra_dep.getD 57 [] := List.mem_of_getElem? (i := 1) rfl
  obtain ⟨a0, a1, a2, hl, hb⟩ := rC_rii_e hb
  rw [hl]
  obtain ⟨M, h1, h2⟩ := hb
  exact ⟨M, (rMg_st h m0 (by decide) m1 h1), h2⟩
theorem rs_58 {K : Nat → Nat} {n : Nat} {p : rP} {vs : List jv} {j : Nat} {σ σ' : Nat → jcell} (h : ∀ a, a < n → ∀ q ∈ ra_dep.getD 58 [], q.1 = K a → aSm vs q (σ a) (σ' a)) (hb : rb_58 K n p (vs.take j) σ) : rb_58 K n p (vs.take j) σ' := by
  have m0 : ((88, [2], none) : aDe) ∈ ra_dep.getD 58 [] := List.mem_of_getElem? (i := 0) rfl
  have m1 : ((90, [], none) : aDe) ∈ ra_dep.getD 58 [] := List.mem_of_getElem? (i := 1) rfl
  obtain ⟨a0, a1, hl, hb⟩ := rC_ri_e hb
  rw [hl]
  obtain ⟨M, h1, h2⟩ := hb
  exact ⟨M, (rMg_st h m0 (by decide) m1 h1), h2⟩
theorem rs_59 {K : Nat → Nat} {n : Nat} {p : rP} {vs : List jv} {j : Nat} {σ σ' : Nat → jcell} (h : ∀ a, a < n → ∀ q ∈ ra_dep.getD 59 [], q.1 = K a → aSm vs q (σ a) (σ' a)) (hb : rb_59 K n p (vs.take j) σ) : rb_59 K n p (vs.take j) σ' := by
  have m0 : ((88, [2], none) : aDe) ∈ ra_dep.getD 59 [] := List.mem_of_getElem? (i := 0) rfl
  have m1 : ((90, [], none) : aDe) ∈ ra_dep.getD 59 [] := List.mem_of_getElem? (i := 1) rfl
  obtain ⟨a0, a1, hl, hb⟩ := rC_ri_e hb
  rw [hl]
  obtain ⟨M, h1, h2⟩ := hb
  exact ⟨M, (rMg_st h m0 (by decide) m1 h1), h2⟩
theorem rs_60 {K : Nat → Nat} {n : Nat} {p : rP} {vs : List jv} {j : Nat} {σ σ' : Nat → jcell} (h : ∀ a, a < n → ∀ q ∈ ra_dep.getD 60 [], q.1 = K a → aSm vs q (σ a) (σ' a)) (hb : rb_60 K n p (vs.take j) σ) : rb_60 K n p (vs.take j) σ' := by
  have m0 : ((88, [2], none) : aDe) ∈ ra_dep.getD 60 [] := List.mem_of_getElem? (i := 0) rfl
  have m1 : ((90, [], none) : aDe) ∈ ra_dep.getD 60 [] := List.mem_of_getElem? (i := 1) rfl
  obtain ⟨a0, a1, hl, hb⟩ := rC_ri_e hb
  rw [hl]
  obtain ⟨M, h1, h2⟩ := hb
  exact ⟨M, (rMg_st h m0 (by decide) m1 h1), h2⟩
theorem rs_61 {K : Nat → Nat} {n : Nat} {p : rP} {vs : List jv} {j : Nat} {σ σ' : Nat → jcell} (h : ∀ a, a < n → ∀ q ∈ ra_dep.getD 61 [], q.1 = K a → aSm vs q (σ a) (σ' a)) (hb : rb_61 K n p (vs.take j) σ) : rb_61 K n p (vs.take j) σ' := by
  have m0 : ((88, [2], none) : aDe) ∈ ra_dep.getD 61 [] := List.mem_of_getElem? (i := 0) rfl
  have m1 : ((90, [], none) : aDe) ∈ ra_dep.getD 61 [] := List.mem_of_getElem? (i := 1) rfl
  obtain ⟨a0, a1, hl, hb⟩ := rC_ri_e hb
  rw [hl]
  obtain ⟨M, h1, h2⟩ := hb
  exact ⟨M, (rMg_st h m0 (by decide) m1 h1), h2⟩
theorem rs_62 {K : Nat → Nat} {n : Nat} {p : rP} {vs : List jv} {j : Nat} {σ σ' : Nat → jcell} (h : ∀ a, a < n → ∀ q ∈ ra_dep.getD 62 [], q.1 = K a → aSm vs q (σ a) (σ' a)) (hb : rb_62 K n p (vs.take j) σ) : rb_62 K n p (vs.take j) σ' := by
  have m0 : ((88, [2], none) : aDe) ∈ ra_dep.getD 62 [] := List.mem_of_getElem? (i := 0) rfl
  have m1 : ((90, [], none) : aDe) ∈ ra_dep.getD 62 [] := List.mem_of_getElem? (i := 1) rfl
  obtain ⟨a0, a1, a2, hl, hb⟩ := rC_rii_e hb
  rw [hl]
  obtain ⟨M, h1, h2⟩ := hb
  exact ⟨M, (rMg_st h m0 (by decide) m1 h1), h2⟩
theorem rs_63 {K : Nat → Nat} {n : Nat} {p : rP} {vs : List jv} {j : Nat} {σ σ' : Nat → jcell} (h : ∀ a, a < n → ∀ q ∈ ra_dep.getD 63 [], q.1 = K a → aSm vs q (σ a) (σ' a)) (hb : rb_63 K n p (vs.take j) σ) : rb_63 K n p (vs.take j) σ' := by
  have m0 : ((88, [2], none) : aDe) ∈ ra_dep.getD 63 [] := List.mem_of_getElem? (i := 0) rfl
  have m1 : ((90, [], none) : aDe) ∈ ra_dep.getD 63 [] := List.mem_of_getElem? (i := 1) rfl
  obtain ⟨a0, a1, a2, hl, hb⟩ := rC_rii_e hb
  rw [hl]
  obtain ⟨M, h1, h2⟩ := hb
  exact ⟨M, (rMg_st h m0 (by decide) m1 h1), h2⟩
theorem rs_64 {K : Nat → Nat} {n : Nat} {p : rP} {vs : List jv} {j : Nat} {σ σ' : Nat → jcell} (h : ∀ a, a < n → ∀ q ∈ ra_dep.getD 64 [], q.1 = K a → aSm vs q (σ a) (σ' a)) (hb : rb_64 K n p (vs.take j) σ) : rb_64 K n p (vs.take j) σ' := by
  exact hb
theorem rs_65 {K : Nat → Nat} {n : Nat} {p : rP} {vs : List jv} {j : Nat} {σ σ' : Nat → jcell} (h : ∀ a, a < n → ∀ q ∈ ra_dep.getD 65 [], q.1 = K a → aSm vs q (σ a) (σ' a)) (hb : rb_65 K n p (vs.take j) σ) : rb_65 K n p (vs.take j) σ' := by
  exact hb
theorem rs_66 {K : Nat → Nat} {n : Nat} {p : rP} {vs : List jv} {j : Nat} {σ σ' : Nat → jcell} (h : ∀ a, a < n → ∀ q ∈ ra_dep.getD 66 [], q.1 = K a → aSm vs q (σ a) (σ' a)) (hb : rb_66 K n p (vs.take j) σ) : rb_66 K n p (vs.take j) σ' := by
  exact hb
theorem rs_67 {K : Nat → Nat} {n : Nat} {p : rP} {vs : List jv} {j : Nat} {σ σ' : Nat → jcell} (h : ∀ a, a < n → ∀ q ∈ ra_dep.getD 67 [], q.1 = K a → aSm vs q (σ a) (σ' a)) (hb : rb_67 K n p (vs.take j) σ) : rb_67 K n p (vs.take j) σ' := by
  exact hb
theorem rs_68 {K : Nat → Nat} {n : Nat} {p : rP} {vs : List jv} {j : Nat} {σ σ' : Nat → jcell} (h : ∀ a, a < n → ∀ q ∈ ra_dep.getD 68 [], q.1 = K a → aSm vs q (σ a) (σ' a)) (hb : rb_68 K n p (vs.take j) σ) : rb_68 K n p (vs.take j) σ' := by
  exact hb
theorem rs_69 {K : Nat → Nat} {n : Nat} {p : rP} {vs : List jv} {j : Nat} {σ σ' : Nat → jcell} (h : ∀ a, a < n → ∀ q ∈ ra_dep.getD 69 [], q.1 = K a → aSm vs q (σ a) (σ' a)) (hb : rb_69 K n p (vs.take j) σ) : rb_69 K n p (vs.take j) σ' := by
  exact hb
theorem rs_70 {K : Nat → Nat} {n : Nat} {p : rP} {vs : List jv} {j : Nat} {σ σ' : Nat → jcell} (h : ∀ a, a < n → ∀ q ∈ ra_dep.getD 70 [], q.1 = K a → aSm vs q (σ a) (σ' a)) (hb : rb_70 K n p (vs.take j) σ) : rb_70 K n p (vs.take j) σ' := by
  exact hb
theorem rs_71 {K : Nat → Nat} {n : Nat} {p : rP} {vs : List jv} {j : Nat} {σ σ' : Nat → jcell} (h : ∀ a, a < n → ∀ q ∈ ra_dep.getD 71 [], q.1 = K a → aSm vs q (σ a) (σ' a)) (hb : rb_71 K n p (vs.take j) σ) : rb_71 K n p (vs.take j) σ' := by
  exact hb
theorem rs_72 {K : Nat → Nat} {n : Nat} {p : rP} {vs : List jv} {j : Nat} {σ σ' : Nat → jcell} (h : ∀ a, a < n → ∀ q ∈ ra_dep.getD 72 [], q.1 = K a → aSm vs q (σ a) (σ' a)) (hb : rb_72 K n p (vs.take j) σ) : rb_72 K n p (vs.take j) σ' := by
  exact hb
theorem rs_73 {K : Nat → Nat} {n : Nat} {p : rP} {vs : List jv} {j : Nat} {σ σ' : Nat → jcell} (h : ∀ a, a < n → ∀ q ∈ ra_dep.getD 73 [], q.1 = K a → aSm vs q (σ a) (σ' a)) (hb : rb_73 K n p (vs.take j) σ) : rb_73 K n p (vs.take j) σ' := by
  exact hb
theorem rs_74 {K : Nat → Nat} {n : Nat} {p : rP} {vs : List jv} {j : Nat} {σ σ' : Nat → jcell} (h : ∀ a, a < n → ∀ q ∈ ra_dep.getD 74 [], q.1 = K a → aSm vs q (σ a) (σ' a)) (hb : rb_74 K n p (vs.take j) σ) : rb_74 K n p (vs.take j) σ' := by
  exact hb
theorem rs_75 {K : Nat → Nat} {n : Nat} {p : rP} {vs : List jv} {j : Nat} {σ σ' : Nat → jcell} (h : ∀ a, a < n → ∀ q ∈ ra_dep.getD 75 [], q.1 = K a → aSm vs q (σ a) (σ' a)) (hb : rb_75 K n p (vs.take j) σ) : rb_75 K n p (vs.take j) σ' := by
  exact hb
theorem rs_76 {K : Nat → Nat} {n : Nat} {p : rP} {vs : List jv} {j : Nat} {σ σ' : Nat → jcell} (h : ∀ a, a < n → ∀ q ∈ ra_dep.getD 76 [], q.1 = K a → aSm vs q (σ a) (σ' a)) (hb : rb_76 K n p (vs.take j) σ) : rb_76 K n p (vs.take j) σ' := by
  have m0 : ((88, [21], none) : aDe) ∈ ra_dep.getD 76 [] := List.mem_of_getElem? (i := 0) rfl
  have m1 : ((103, [], some ([(1, 2048)], 2048)) : aDe) ∈ ra_dep.getD 76 [] := List.mem_of_getElem? (i := 1) rfl
  obtain ⟨a0, a1, a2, hl, hb⟩ := rC_rii_e hb
  rw [hl]
  have hb : p.2 = none ∧ a2.toInt ≤ 2048 ∧ rLF K n σ a0 a1.toInt a2.toInt p.1 := hb
  have r9 : p.2 = none ∧ a2.toInt ≤ 2048 ∧ rLF K n σ' a0 a1.toInt a2.toInt p.1 := by
    obtain ⟨hp, hc, g, r1, kk⟩ := hb
    obtain ⟨n1g, n1, n1e⟩ := rRo_sb h m0 (by decide) m1 (b := (2048 * a1.toInt + 2048)) (fun x hx => rVa1 (x := a1) hx (rTak (j := j) (by rw [hl]; rfl))) r1
    exact ⟨hp, hc, n1g, n1, fun hf j j1 j2 => by rw [n1e _ (by omega)]; exact kk hf j j1 j2⟩
  exact r9
theorem rs_77 {K : Nat → Nat} {n : Nat} {p : rP} {vs : List jv} {j : Nat} {σ σ' : Nat → jcell} (h : ∀ a, a < n → ∀ q ∈ ra_dep.getD 77 [], q.1 = K a → aSm vs q (σ a) (σ' a)) (hb : rb_77 K n p (vs.take j) σ) : rb_77 K n p (vs.take j) σ' := by
  have m0 : ((88, [21], none) : aDe) ∈ ra_dep.getD 77 [] := List.mem_of_getElem? (i := 0) rfl
  have m1 : ((103, [], some ([(1, 2048)], 4096)) : aDe) ∈ ra_dep.getD 77 [] := List.mem_of_getElem? (i := 1) rfl
  unfold rb_77 at hb
  rcases hb with hb | hb
  · obtain ⟨a0, a1, a2, hl, hb⟩ := rC_rii_e hb
    rw [hl]
    have hb : p.2 = none ∧ a2.toInt ≤ 2048 ∧ rLF K n σ a0 a1.toInt (a2.toInt + 1) p.1 := hb
    have r9 : p.2 = none ∧ a2.toInt ≤ 2048 ∧ rLF K n σ' a0 a1.toInt (a2.toInt + 1) p.1 := by
      obtain ⟨hp, hc, g, r1, kk⟩ := hb
      obtain ⟨n1g, n1, n1e⟩ := rRo_sb h m0 (by decide) m1 (b := (2048 * a1.toInt + 4096)) (fun x hx => rVa1 (x := a1) hx (rTak (j := j) (by rw [hl]; rfl))) r1
      exact ⟨hp, hc, n1g, n1, fun hf j j1 j2 => by rw [n1e _ (by omega)]; exact kk hf j j1 j2⟩
    refine Or.inl ?_
    exact r9
  · obtain ⟨a0, a1, a2, a3, hl, hb⟩ := rC_riii_e hb
    rw [hl]
    have hb : p.2 = none ∧ a2.toInt ≤ 2048 ∧ rLF K n σ a0 (a1.toInt + 1) a2.toInt p.1 := hb
    have r9 : p.2 = none ∧ a2.toInt ≤ 2048 ∧ rLF K n σ' a0 (a1.toInt + 1) a2.toInt p.1 := by
      obtain ⟨hp, hc, g, r1, kk⟩ := hb
      obtain ⟨n1g, n1, n1e⟩ := rRo_sb h m0 (by decide) m1 (b := (2048 * a1.toInt + 4096)) (fun x hx => rVa1 (x := a1) hx (rTak (j := j) (by rw [hl]; rfl))) r1
      exact ⟨hp, hc, n1g, n1, fun hf j j1 j2 => by rw [n1e _ (by omega)]; exact kk hf j j1 j2⟩
    refine Or.inr (?_)
    exact r9
theorem rs_78 {K : Nat → Nat} {n : Nat} {p : rP} {vs : List jv} {j : Nat} {σ σ' : Nat → jcell} (h : ∀ a, a < n → ∀ q ∈ ra_dep.getD 78 [], q.1 = K a → aSm vs q (σ a) (σ' a)) (hb : rb_78 K n p (vs.take j) σ) : rb_78 K n p (vs.take j) σ' := by
  exact hb
theorem rs_79 {K : Nat → Nat} {n : Nat} {p : rP} {vs : List jv} {j : Nat} {σ σ' : Nat → jcell} (h : ∀ a, a < n → ∀ q ∈ ra_dep.getD 79 [], q.1 = K a → aSm vs q (σ a) (σ' a)) (hb : rb_79 K n p (vs.take j) σ) : rb_79 K n p (vs.take j) σ' := by
  exact hb
theorem rs_80 {K : Nat → Nat} {n : Nat} {p : rP} {vs : List jv} {j : Nat} {σ σ' : Nat → jcell} (h : ∀ a, a < n → ∀ q ∈ ra_dep.getD 80 [], q.1 = K a → aSm vs q (σ a) (σ' a)) (hb : rb_80 K n p (vs.take j) σ) : rb_80 K n p (vs.take j) σ' := by
  have m0 : ((88, [21], none) : aDe) ∈ ra_dep.getD 80 [] := List.mem_of_getElem? (i := 0) rfl
  have m1 : ((103, [], some ([], 4096)) : aDe) ∈ ra_dep.getD 80 [] := List.mem_of_getElem? (i := 1) rfl
  obtain ⟨a0, a1, hl, hb⟩ := rC_ri_e hb
  rw [hl]
  have hb : p.2 = none ∧ a1.toInt ≤ 2048 ∧ rLF K n σ a0 1 a1.toInt p.1 := hb
  have r9 : p.2 = none ∧ a1.toInt ≤ 2048 ∧ rLF K n σ' a0 1 a1.toInt p.1 := by
    obtain ⟨hp, hc, g, r1, kk⟩ := hb
    obtain ⟨n1g, n1, n1e⟩ := rRo_sb h m0 (by decide) m1 (b := 4096) (fun x hx => rVa0 hx) r1
    exact ⟨hp, hc, n1g, n1, fun hf j j1 j2 => by rw [n1e _ (by omega)]; exact kk hf j j1 j2⟩
  exact r9
theorem rs_81 {K : Nat → Nat} {n : Nat} {p : rP} {vs : List jv} {j : Nat} {σ σ' : Nat → jcell} (h : ∀ a, a < n → ∀ q ∈ ra_dep.getD 81 [], q.1 = K a → aSm vs q (σ a) (σ' a)) (hb : rb_81 K n p (vs.take j) σ) : rb_81 K n p (vs.take j) σ' := by
  exact hb
theorem rs_82 {K : Nat → Nat} {n : Nat} {p : rP} {vs : List jv} {j : Nat} {σ σ' : Nat → jcell} (h : ∀ a, a < n → ∀ q ∈ ra_dep.getD 82 [], q.1 = K a → aSm vs q (σ a) (σ' a)) (hb : rb_82 K n p (vs.take j) σ) : rb_82 K n p (vs.take j) σ' := by
  exact hb
theorem rs_83 {K : Nat → Nat} {n : Nat} {p : rP} {vs : List jv} {j : Nat} {σ σ' : Nat → jcell} (h : ∀ a, a < n → ∀ q ∈ ra_dep.getD 83 [], q.1 = K a → aSm vs q (σ a) (σ' a)) (hb : rb_83 K n p (vs.take j) σ) : rb_83 K n p (vs.take j) σ' := by
  exact hb
theorem rs_84 {K : Nat → Nat} {n : Nat} {p : rP} {vs : List jv} {j : Nat} {σ σ' : Nat → jcell} (h : ∀ a, a < n → ∀ q ∈ ra_dep.getD 84 [], q.1 = K a → aSm vs q (σ a) (σ' a)) (hb : rb_84 K n p (vs.take j) σ) : rb_84 K n p (vs.take j) σ' := by
  exact hb
theorem rs_85 {K : Nat → Nat} {n : Nat} {p : rP} {vs : List jv} {j : Nat} {σ σ' : Nat → jcell} (h : ∀ a, a < n → ∀ q ∈ ra_dep.getD 85 [], q.1 = K a → aSm vs q (σ a) (σ' a)) (hb : rb_85 K n p (vs.take j) σ) : rb_85 K n p (vs.take j) σ' := by
  exact hb
theorem rs_86 {K : Nat → Nat} {n : Nat} {p : rP} {vs : List jv} {j : Nat} {σ σ' : Nat → jcell} (h : ∀ a, a < n → ∀ q ∈ ra_dep.getD 86 [], q.1 = K a → aSm vs q (σ a) (σ' a)) (hb : rb_86 K n p (vs.take j) σ) : rb_86 K n p (vs.take j) σ' := by
  exact hb
theorem rs_87 {K : Nat → Nat} {n : Nat} {p : rP} {vs : List jv} {j : Nat} {σ σ' : Nat → jcell} (h : ∀ a, a < n → ∀ q ∈ ra_dep.getD 87 [], q.1 = K a → aSm vs q (σ a) (σ' a)) (hb : rb_87 K n p (vs.take j) σ) : rb_87 K n p (vs.take j) σ' := by
  exact hb
theorem rs_88 {K : Nat → Nat} {n : Nat} {p : rP} {vs : List jv} {j : Nat} {σ σ' : Nat → jcell} (h : ∀ a, a < n → ∀ q ∈ ra_dep.getD 88 [], q.1 = K a → aSm vs q (σ a) (σ' a)) (hb : rb_88 K n p (vs.take j) σ) : rb_88 K n p (vs.take j) σ' := by
  have m0 : ((88, [9], none) : aDe) ∈ ra_dep.getD 88 [] := List.mem_of_getElem? (i := 0) rfl
  have m1 : ((91, [], some ([(1, 64), (2, 1)], 0)) : aDe) ∈ ra_dep.getD 88 [] := List.mem_of_getElem? (i := 1) rfl
  obtain ⟨a0, a1, a2, hl, hb⟩ := rC_rii_e hb
  rw [hl]
  have hb : rEN K n σ a0 a1.toInt a2.toInt p.1.1 := hb
  have r9 : rEN K n σ' a0 a1.toInt a2.toInt p.1.1 := by
    obtain ⟨gM, r1, kk⟩ := hb
    obtain ⟨n1g, n1, n1e⟩ := rRo_sb h m0 (by decide) m1 (b := (64 * a1.toInt + 1 * a2.toInt + 0)) (fun x hx => rVa2 (x := a1) (x' := a2) hx (rTak (j := j) (by rw [hl]; rfl)) (rTak (j := j) (by rw [hl]; rfl))) r1
    exact ⟨n1g, n1, fun ht j j0 j1 => by rw [n1e _ (by omega)]; exact kk ht j j0 j1⟩
  exact r9
theorem rs_89 {K : Nat → Nat} {n : Nat} {p : rP} {vs : List jv} {j : Nat} {σ σ' : Nat → jcell} (h : ∀ a, a < n → ∀ q ∈ ra_dep.getD 89 [], q.1 = K a → aSm vs q (σ a) (σ' a)) (hb : rb_89 K n p (vs.take j) σ) : rb_89 K n p (vs.take j) σ' := by
  have m0 : ((88, [9], none) : aDe) ∈ ra_dep.getD 89 [] := List.mem_of_getElem? (i := 0) rfl
  have m1 : ((91, [], some ([(1, 64), (2, 1)], 1)) : aDe) ∈ ra_dep.getD 89 [] := List.mem_of_getElem? (i := 1) rfl
  obtain ⟨a0, a1, a2, hl, hb⟩ := rC_rii_e hb
  rw [hl]
  have hb : rEN K n σ a0 a1.toInt (a2.toInt + 1) p.1.1 := hb
  have r9 : rEN K n σ' a0 a1.toInt (a2.toInt + 1) p.1.1 := by
    obtain ⟨gM, r1, kk⟩ := hb
    obtain ⟨n1g, n1, n1e⟩ := rRo_sb h m0 (by decide) m1 (b := (64 * a1.toInt + 1 * a2.toInt + 1)) (fun x hx => rVa2 (x := a1) (x' := a2) hx (rTak (j := j) (by rw [hl]; rfl)) (rTak (j := j) (by rw [hl]; rfl))) r1
    exact ⟨n1g, n1, fun ht j j0 j1 => by rw [n1e _ (by omega)]; exact kk ht j j0 j1⟩
  exact r9
theorem rs_90 {K : Nat → Nat} {n : Nat} {p : rP} {vs : List jv} {j : Nat} {σ σ' : Nat → jcell} (h : ∀ a, a < n → ∀ q ∈ ra_dep.getD 90 [], q.1 = K a → aSm vs q (σ a) (σ' a)) (hb : rb_90 K n p (vs.take j) σ) : rb_90 K n p (vs.take j) σ' := by
  have m0 : ((88, [9, 10, 11, 12], none) : aDe) ∈ ra_dep.getD 90 [] := List.mem_of_getElem? (i := 0) rfl
  have m1 : ((91, [], some ([(1, 64)], 64)) : aDe) ∈ ra_dep.getD 90 [] := List.mem_of_getElem? (i := 1) rfl
  have m2 : ((92, [], some ([(1, 1)], 1)) : aDe) ∈ ra_dep.getD 90 [] := List.mem_of_getElem? (i := 2) rfl
  have m3 : ((93, [], some ([(1, 1)], 1)) : aDe) ∈ ra_dep.getD 90 [] := List.mem_of_getElem? (i := 3) rfl
  have m4 : ((94, [], some ([(1, 1)], 1)) : aDe) ∈ ra_dep.getD 90 [] := List.mem_of_getElem? (i := 4) rfl
  obtain ⟨a0, a1, hl, hb⟩ := rC_ri_e hb
  rw [hl]
  have hb : p.2 = none ∧ rAP K n σ a0 a1.toInt p.1 := hb
  have r9 : p.2 = none ∧ rAP K n σ' a0 a1.toInt p.1 := by
    obtain ⟨hp, gM, gS, r1, r2, h0, e1, kk⟩ := hb
    obtain ⟨n1g, n1, n1e⟩ := rRo_sb h m0 (by decide) m1 (b := (64 * a1.toInt + 64)) (fun x hx => rVa1 (x := a1) hx (rTak (j := j) (by rw [hl]; rfl))) r1
    obtain ⟨n2g, n2, n2e⟩ := rRo_sb h m0 (by decide) m2 (b := (1 * a1.toInt + 1)) (fun x hx => rVa1 (x := a1) hx (rTak (j := j) (by rw [hl]; rfl))) r2
    exact ⟨hp, n1g, n2g, n1, n2, h0, by rw [n2e _ (by omega)]; exact e1, fun j j0 j1 => by rw [n1e _ (by omega)]; exact kk j j0 j1⟩
  exact r9
theorem rs_91 {K : Nat → Nat} {n : Nat} {p : rP} {vs : List jv} {j : Nat} {σ σ' : Nat → jcell} (h : ∀ a, a < n → ∀ q ∈ ra_dep.getD 91 [], q.1 = K a → aSm vs q (σ a) (σ' a)) (hb : rb_91 K n p (vs.take j) σ) : rb_91 K n p (vs.take j) σ' := by
  have m0 : ((88, [21, 22], none) : aDe) ∈ ra_dep.getD 91 [] := List.mem_of_getElem? (i := 0) rfl
  have m1 : ((103, [], some ([(1, 2048)], 2048)) : aDe) ∈ ra_dep.getD 91 [] := List.mem_of_getElem? (i := 1) rfl
  have m2 : ((104, [], some ([(1, 1)], 1)) : aDe) ∈ ra_dep.getD 91 [] := List.mem_of_getElem? (i := 2) rfl
  obtain ⟨a0, a1, hl, hb⟩ := rC_ri_e hb
  rw [hl]
  have hb : p.2 = none ∧ ∃ c, c ≤ 2048 ∧ rCT K n σ a0 a1.toInt c ∧ rLF K n σ a0 a1.toInt c p.1 := hb
  have r9 : p.2 = none ∧ ∃ c, c ≤ 2048 ∧ rCT K n σ' a0 a1.toInt c ∧ rLF K n σ' a0 a1.toInt c p.1 := by
    obtain ⟨hp, c, hc, ⟨h0, g0, r0, e0⟩, g, r1, kk⟩ := hb
    obtain ⟨n0g, n0, n0e⟩ := rRo_sb h m0 (by decide) m2 (b := (1 * a1.toInt + 1)) (fun x hx => rVa1 (x := a1) hx (rTak (j := j) (by rw [hl]; rfl))) r0
    obtain ⟨n1g, n1, n1e⟩ := rRo_sb h m0 (by decide) m1 (b := (2048 * a1.toInt + 2048)) (fun x hx => rVa1 (x := a1) hx (rTak (j := j) (by rw [hl]; rfl))) r1
    exact ⟨hp, c, hc, ⟨h0, n0g, n0, by rw [n0e _ (by omega)]; exact e0⟩, n1g, n1, fun hf j j1 j2 => by rw [n1e _ (by omega)]; exact kk hf j j1 j2⟩
  exact r9
theorem rs_92 {K : Nat → Nat} {n : Nat} {p : rP} {vs : List jv} {j : Nat} {σ σ' : Nat → jcell} (h : ∀ a, a < n → ∀ q ∈ ra_dep.getD 92 [], q.1 = K a → aSm vs q (σ a) (σ' a)) (hb : rb_92 K n p (vs.take j) σ) : rb_92 K n p (vs.take j) σ' := by
  have m0 : ((88, [21, 22], none) : aDe) ∈ ra_dep.getD 92 [] := List.mem_of_getElem? (i := 0) rfl
  have m1 : ((103, [], some ([(1, 2048)], 2048)) : aDe) ∈ ra_dep.getD 92 [] := List.mem_of_getElem? (i := 1) rfl
  have m2 : ((104, [], some ([(1, 1)], 1)) : aDe) ∈ ra_dep.getD 92 [] := List.mem_of_getElem? (i := 2) rfl
  obtain ⟨a0, a1, a2, hl, hb⟩ := rC_rii_e hb
  rw [hl]
  have hb : p.2 = none ∧ a2.toInt ≤ 2048 ∧ rCT K n σ a0 a1.toInt a2.toInt ∧ rLF K n σ a0 a1.toInt a2.toInt p.1 := hb
  have r9 : p.2 = none ∧ a2.toInt ≤ 2048 ∧ rCT K n σ' a0 a1.toInt a2.toInt ∧ rLF K n σ' a0 a1.toInt a2.toInt p.1 := by
    obtain ⟨hp, hc, ⟨h0, g0, r0, e0⟩, g, r1, kk⟩ := hb
    obtain ⟨n0g, n0, n0e⟩ := rRo_sb h m0 (by decide) m2 (b := (1 * a1.toInt + 1)) (fun x hx => rVa1 (x := a1) hx (rTak (j := j) (by rw [hl]; rfl))) r0
    obtain ⟨n1g, n1, n1e⟩ := rRo_sb h m0 (by decide) m1 (b := (2048 * a1.toInt + 2048)) (fun x hx => rVa1 (x := a1) hx (rTak (j := j) (by rw [hl]; rfl))) r1
    exact ⟨hp, hc, ⟨h0, n0g, n0, by rw [n0e _ (by omega)]; exact e0⟩, n1g, n1, fun hf j j1 j2 => by rw [n1e _ (by omega)]; exact kk hf j j1 j2⟩
  exact r9
theorem rs_93 {K : Nat → Nat} {n : Nat} {p : rP} {vs : List jv} {j : Nat} {σ σ' : Nat → jcell} (h : ∀ a, a < n → ∀ q ∈ ra_dep.getD 93 [], q.1 = K a → aSm vs q (σ a) (σ' a)) (hb : rb_93 K n p (vs.take j) σ) : rb_93 K n p (vs.take j) σ' := by
  exact hb
theorem rs_94 {K : Nat → Nat} {n : Nat} {p : rP} {vs : List jv} {j : Nat} {σ σ' : Nat → jcell} (h : ∀ a, a < n → ∀ q ∈ ra_dep.getD 94 [], q.1 = K a → aSm vs q (σ a) (σ' a)) (hb : rb_94 K n p (vs.take j) σ) : rb_94 K n p (vs.take j) σ' := by
  have m0 : ((88, [25], none) : aDe) ∈ ra_dep.getD 94 [] := List.mem_of_getElem? (i := 0) rfl
  obtain ⟨a0, hl, hb⟩ := rC_r_e hb
  rw [hl]
  have hb : ∃ v : Int32, rOb K n σ a0 88 25 (rI v) ∧ rLm p.1 v.toInt ∧ rGd (rSh rS1 p [rR 0, rI (Int32.ofInt v.toInt)]).1 := hb
  have r9 : ∃ v : Int32, rOb K n σ' a0 88 25 (rI v) ∧ rLm p.1 v.toInt ∧ rGd (rSh rS1 p [rR 0, rI (Int32.ofInt v.toInt)]).1 := by
    obtain ⟨v, o1, h1, h2⟩ := hb
    exact ⟨v, (rOb_st h m0 (by decide) o1), h1, h2⟩
  exact r9
theorem rs_95 {K : Nat → Nat} {n : Nat} {p : rP} {vs : List jv} {j : Nat} {σ σ' : Nat → jcell} (h : ∀ a, a < n → ∀ q ∈ ra_dep.getD 95 [], q.1 = K a → aSm vs q (σ a) (σ' a)) (hb : rb_95 K n p (vs.take j) σ) : rb_95 K n p (vs.take j) σ' := by
  exact hb
theorem rs_96 {K : Nat → Nat} {n : Nat} {p : rP} {vs : List jv} {j : Nat} {σ σ' : Nat → jcell} (h : ∀ a, a < n → ∀ q ∈ ra_dep.getD 96 [], q.1 = K a → aSm vs q (σ a) (σ' a)) (hb : rb_96 K n p (vs.take j) σ) : rb_96 K n p (vs.take j) σ' := by
  have m0 : ((105, [], none) : aDe) ∈ ra_dep.getD 96 [] := List.mem_of_getElem? (i := 0) rfl
  have m1 : ((107, [], none) : aDe) ∈ ra_dep.getD 96 [] := List.mem_of_getElem? (i := 1) rfl
  obtain ⟨a0, a1, hl, hb⟩ := rC_ri_e hb
  rw [hl]
  have hb : ∃ g a, (rRw K n σ a0 105 4 g ∨ rRw K n σ a0 107 4 g) ∧ rLn a p g 0 a1.toInt.toNat := hb
  have r9 : ∃ g a, (rRw K n σ' a0 105 4 g ∨ rRw K n σ' a0 107 4 g) ∧ rLn a p g 0 a1.toInt.toNat := by
    obtain ⟨g, a, h1, h2⟩ := hb
    refine ⟨g, a, ?_, h2⟩
    rcases h1 with h1 | h1
    · exact Or.inl (rRw_st h m0 h1)
    · exact Or.inr (rRw_st h m1 h1)
  exact r9
theorem rs_97 {K : Nat → Nat} {n : Nat} {p : rP} {vs : List jv} {j : Nat} {σ σ' : Nat → jcell} (h : ∀ a, a < n → ∀ q ∈ ra_dep.getD 97 [], q.1 = K a → aSm vs q (σ a) (σ' a)) (hb : rb_97 K n p (vs.take j) σ) : rb_97 K n p (vs.take j) σ' := by
  have m0 : ((88, [33], none) : aDe) ∈ ra_dep.getD 97 [] := List.mem_of_getElem? (i := 0) rfl
  have m1 : ((107, [], none) : aDe) ∈ ra_dep.getD 97 [] := List.mem_of_getElem? (i := 1) rfl
  unfold rb_97 at hb
  rcases hb with hb | hb
  · obtain ⟨a0, a1, a2, hl, hb⟩ := rC_rii_e hb
    rw [hl]
    have hb : ∃ g, rRo K n σ a0 88 33 107 4 g ∧ rLn a0 p g a1.toInt.toNat a2.toInt.toNat := hb
    have r9 : ∃ g, rRo K n σ' a0 88 33 107 4 g ∧ rLn a0 p g a1.toInt.toNat a2.toInt.toNat := by
      obtain ⟨g, r1, h2⟩ := hb
      exact ⟨g, (rRo_st h m0 (by decide) m1 r1), h2⟩
    refine Or.inl ?_
    exact r9
  · obtain ⟨a0, a1, a2, a3, hl, hb⟩ := rC_riii_e hb
    rw [hl]
    have hb : a3.toInt = 1 → ∃ g, rRo K n σ a0 88 33 107 4 g ∧ rLn a0 p g a1.toInt.toNat a2.toInt.toNat := hb
    have r9 : a3.toInt = 1 → ∃ g, rRo K n σ' a0 88 33 107 4 g ∧ rLn a0 p g a1.toInt.toNat a2.toInt.toNat := by
      intro h9
      obtain ⟨g, r1, h2⟩ := hb h9
      exact ⟨g, (rRo_st h m0 (by decide) m1 r1), h2⟩
    refine Or.inr (?_)
    exact r9
theorem rs_98 {K : Nat → Nat} {n : Nat} {p : rP} {vs : List jv} {j : Nat} {σ σ' : Nat → jcell} (h : ∀ a, a < n → ∀ q ∈ ra_dep.getD 98 [], q.1 = K a → aSm vs q (σ a) (σ' a)) (hb : rb_98 K n p (vs.take j) σ) : rb_98 K n p (vs.take j) σ' := by
  have m0 : ((88, [21, 22], none) : aDe) ∈ ra_dep.getD 98 [] := List.mem_of_getElem? (i := 0) rfl
  have m1 : ((103, [], some ([], 2048)) : aDe) ∈ ra_dep.getD 98 [] := List.mem_of_getElem? (i := 1) rfl
  have m2 : ((104, [], some ([], 1)) : aDe) ∈ ra_dep.getD 98 [] := List.mem_of_getElem? (i := 2) rfl
  obtain ⟨a0, a1, hl, hb⟩ := rC_ri_e hb
  rw [hl]
  have hb : p.2 = none ∧ a1.toInt ≤ 2048 ∧ rCT K n σ a0 0 a1.toInt ∧ rLF K n σ a0 0 a1.toInt p.1 := hb
  have r9 : p.2 = none ∧ a1.toInt ≤ 2048 ∧ rCT K n σ' a0 0 a1.toInt ∧ rLF K n σ' a0 0 a1.toInt p.1 := by
    obtain ⟨hp, hc, ⟨h0, g0, r0, e0⟩, g, r1, kk⟩ := hb
    obtain ⟨n0g, n0, n0e⟩ := rRo_sb h m0 (by decide) m2 (b := 1) (fun x hx => rVa0 hx) r0
    obtain ⟨n1g, n1, n1e⟩ := rRo_sb h m0 (by decide) m1 (b := 2048) (fun x hx => rVa0 hx) r1
    exact ⟨hp, hc, ⟨h0, n0g, n0, by rw [n0e _ (by omega)]; exact e0⟩, n1g, n1, fun hf j j1 j2 => by rw [n1e _ (by omega)]; exact kk hf j j1 j2⟩
  exact r9
theorem rs_99 {K : Nat → Nat} {n : Nat} {p : rP} {vs : List jv} {j : Nat} {σ σ' : Nat → jcell} (h : ∀ a, a < n → ∀ q ∈ ra_dep.getD 99 [], q.1 = K a → aSm vs q (σ a) (σ' a)) (hb : rb_99 K n p (vs.take j) σ) : rb_99 K n p (vs.take j) σ' := by
  have m0 : ((88, [21], none) : aDe) ∈ ra_dep.getD 99 [] := List.mem_of_getElem? (i := 0) rfl
  have m1 : ((103, [], some ([], 2048)) : aDe) ∈ ra_dep.getD 99 [] := List.mem_of_getElem? (i := 1) rfl
  obtain ⟨a0, a1, hl, hb⟩ := rC_ri_e hb
  rw [hl]
  have hb : p.2 = none ∧ a1.toInt ≤ 2048 ∧ rLF K n σ a0 0 a1.toInt p.1 := hb
  have r9 : p.2 = none ∧ a1.toInt ≤ 2048 ∧ rLF K n σ' a0 0 a1.toInt p.1 := by
    obtain ⟨hp, hc, g, r1, kk⟩ := hb
    obtain ⟨n1g, n1, n1e⟩ := rRo_sb h m0 (by decide) m1 (b := 2048) (fun x hx => rVa0 hx) r1
    exact ⟨hp, hc, n1g, n1, fun hf j j1 j2 => by rw [n1e _ (by omega)]; exact kk hf j j1 j2⟩
  exact r9
theorem rs_100 {K : Nat → Nat} {n : Nat} {vs : List jv} {j : Nat} {σ σ' : Nat → jcell} (h : ∀ a, a < n → ∀ q ∈ ra_dep.getD 100 [], q.1 = K a → aSm vs q (σ a) (σ' a)) (hb : rb_100 K n (vs.take j) σ) : rb_100 K n (vs.take j) σ' := by
  exact hb
theorem rs_101 {K : Nat → Nat} {n : Nat} {vs : List jv} {j : Nat} {σ σ' : Nat → jcell} (h : ∀ a, a < n → ∀ q ∈ ra_dep.getD 101 [], q.1 = K a → aSm vs q (σ a) (σ' a)) (hb : rb_101 K n (vs.take j) σ) : rb_101 K n (vs.take j) σ' := by
  exact hb
theorem rs_102 {K : Nat → Nat} {n : Nat} {vs : List jv} {j : Nat} {σ σ' : Nat → jcell} (h : ∀ a, a < n → ∀ q ∈ ra_dep.getD 102 [], q.1 = K a → aSm vs q (σ a) (σ' a)) (hb : rb_102 K n (vs.take j) σ) : rb_102 K n (vs.take j) σ' := by
  exact hb
theorem rs_103 {K : Nat → Nat} {n : Nat} {vs : List jv} {j : Nat} {σ σ' : Nat → jcell} (h : ∀ a, a < n → ∀ q ∈ ra_dep.getD 103 [], q.1 = K a → aSm vs q (σ a) (σ' a)) (hb : rb_103 K n (vs.take j) σ) : rb_103 K n (vs.take j) σ' := by
  exact hb
theorem rs_104 {K : Nat → Nat} {n : Nat} {vs : List jv} {j : Nat} {σ σ' : Nat → jcell} (h : ∀ a, a < n → ∀ q ∈ ra_dep.getD 104 [], q.1 = K a → aSm vs q (σ a) (σ' a)) (hb : rb_104 K n (vs.take j) σ) : rb_104 K n (vs.take j) σ' := by
  exact hb
theorem rs_105 {K : Nat → Nat} {n : Nat} {vs : List jv} {j : Nat} {σ σ' : Nat → jcell} (h : ∀ a, a < n → ∀ q ∈ ra_dep.getD 105 [], q.1 = K a → aSm vs q (σ a) (σ' a)) (hb : rb_105 K n (vs.take j) σ) : rb_105 K n (vs.take j) σ' := by
  exact hb
theorem rs_106 {K : Nat → Nat} {n : Nat} {vs : List jv} {j : Nat} {σ σ' : Nat → jcell} (h : ∀ a, a < n → ∀ q ∈ ra_dep.getD 106 [], q.1 = K a → aSm vs q (σ a) (σ' a)) (hb : rb_106 K n (vs.take j) σ) : rb_106 K n (vs.take j) σ' := by
  exact hb
theorem rs_107 {K : Nat → Nat} {n : Nat} {vs : List jv} {j : Nat} {σ σ' : Nat → jcell} (h : ∀ a, a < n → ∀ q ∈ ra_dep.getD 107 [], q.1 = K a → aSm vs q (σ a) (σ' a)) (hb : rb_107 K n (vs.take j) σ) : rb_107 K n (vs.take j) σ' := by
  exact hb
theorem rs_108 {K : Nat → Nat} {n : Nat} {vs : List jv} {j : Nat} {σ σ' : Nat → jcell} (h : ∀ a, a < n → ∀ q ∈ ra_dep.getD 108 [], q.1 = K a → aSm vs q (σ a) (σ' a)) (hb : rb_108 K n (vs.take j) σ) : rb_108 K n (vs.take j) σ' := by
  exact hb
theorem rs_109 {K : Nat → Nat} {n : Nat} {vs : List jv} {j : Nat} {σ σ' : Nat → jcell} (h : ∀ a, a < n → ∀ q ∈ ra_dep.getD 109 [], q.1 = K a → aSm vs q (σ a) (σ' a)) (hb : rb_109 K n (vs.take j) σ) : rb_109 K n (vs.take j) σ' := by
  exact hb
theorem rs_110 {K : Nat → Nat} {n : Nat} {vs : List jv} {j : Nat} {σ σ' : Nat → jcell} (h : ∀ a, a < n → ∀ q ∈ ra_dep.getD 110 [], q.1 = K a → aSm vs q (σ a) (σ' a)) (hb : rb_110 K n (vs.take j) σ) : rb_110 K n (vs.take j) σ' := by
  exact hb
theorem rs_111 {K : Nat → Nat} {n : Nat} {vs : List jv} {j : Nat} {σ σ' : Nat → jcell} (h : ∀ a, a < n → ∀ q ∈ ra_dep.getD 111 [], q.1 = K a → aSm vs q (σ a) (σ' a)) (hb : rb_111 K n (vs.take j) σ) : rb_111 K n (vs.take j) σ' := by
  exact hb
theorem rs_112 {K : Nat → Nat} {n : Nat} {vs : List jv} {j : Nat} {σ σ' : Nat → jcell} (h : ∀ a, a < n → ∀ q ∈ ra_dep.getD 112 [], q.1 = K a → aSm vs q (σ a) (σ' a)) (hb : rb_112 K n (vs.take j) σ) : rb_112 K n (vs.take j) σ' := by
  exact hb
theorem rs_113 {K : Nat → Nat} {n : Nat} {vs : List jv} {j : Nat} {σ σ' : Nat → jcell} (h : ∀ a, a < n → ∀ q ∈ ra_dep.getD 113 [], q.1 = K a → aSm vs q (σ a) (σ' a)) (hb : rb_113 K n (vs.take j) σ) : rb_113 K n (vs.take j) σ' := by
  exact hb
theorem rs_114 {K : Nat → Nat} {n : Nat} {vs : List jv} {j : Nat} {σ σ' : Nat → jcell} (h : ∀ a, a < n → ∀ q ∈ ra_dep.getD 114 [], q.1 = K a → aSm vs q (σ a) (σ' a)) (hb : rb_114 K n (vs.take j) σ) : rb_114 K n (vs.take j) σ' := by
  exact hb
theorem rs_115 {K : Nat → Nat} {n : Nat} {vs : List jv} {j : Nat} {σ σ' : Nat → jcell} (h : ∀ a, a < n → ∀ q ∈ ra_dep.getD 115 [], q.1 = K a → aSm vs q (σ a) (σ' a)) (hb : rb_115 K n (vs.take j) σ) : rb_115 K n (vs.take j) σ' := by
  exact hb
theorem rs_116 {K : Nat → Nat} {n : Nat} {vs : List jv} {j : Nat} {σ σ' : Nat → jcell} (h : ∀ a, a < n → ∀ q ∈ ra_dep.getD 116 [], q.1 = K a → aSm vs q (σ a) (σ' a)) (hb : rb_116 K n (vs.take j) σ) : rb_116 K n (vs.take j) σ' := by
  exact hb
theorem rs_117 {K : Nat → Nat} {n : Nat} {vs : List jv} {j : Nat} {σ σ' : Nat → jcell} (h : ∀ a, a < n → ∀ q ∈ ra_dep.getD 117 [], q.1 = K a → aSm vs q (σ a) (σ' a)) (hb : rb_117 K n (vs.take j) σ) : rb_117 K n (vs.take j) σ' := by
  exact hb
theorem rs_120 {K : Nat → Nat} {n : Nat} {vs : List jv} {j : Nat} {σ σ' : Nat → jcell} (h : ∀ a, a < n → ∀ q ∈ ra_dep.getD 120 [], q.1 = K a → aSm vs q (σ a) (σ' a)) (hb : rb_120 K n (vs.take j) σ) : rb_120 K n (vs.take j) σ' := by
  exact hb
theorem rs_121 {K : Nat → Nat} {n : Nat} {vs : List jv} {j : Nat} {σ σ' : Nat → jcell} (h : ∀ a, a < n → ∀ q ∈ ra_dep.getD 121 [], q.1 = K a → aSm vs q (σ a) (σ' a)) (hb : rb_121 K n (vs.take j) σ) : rb_121 K n (vs.take j) σ' := by
  exact hb
theorem rs_122 {K : Nat → Nat} {n : Nat} {vs : List jv} {j : Nat} {σ σ' : Nat → jcell} (h : ∀ a, a < n → ∀ q ∈ ra_dep.getD 122 [], q.1 = K a → aSm vs q (σ a) (σ' a)) (hb : rb_122 K n (vs.take j) σ) : rb_122 K n (vs.take j) σ' := by
  have m0 : ((88, [2], none) : aDe) ∈ ra_dep.getD 122 [] := List.mem_of_getElem? (i := 0) rfl
  have m1 : ((90, [], none) : aDe) ∈ ra_dep.getD 122 [] := List.mem_of_getElem? (i := 1) rfl
  obtain ⟨a0, a1, a2, a3, hl, hb⟩ := rC_riii_e hb
  rw [hl]
  obtain ⟨M, h1, h2⟩ := hb
  exact ⟨M, (rMg_st h m0 (by decide) m1 h1), h2⟩
theorem rs_123 {K : Nat → Nat} {n : Nat} {vs : List jv} {j : Nat} {σ σ' : Nat → jcell} (h : ∀ a, a < n → ∀ q ∈ ra_dep.getD 123 [], q.1 = K a → aSm vs q (σ a) (σ' a)) (hb : rb_123 K n (vs.take j) σ) : rb_123 K n (vs.take j) σ' := by
  have m0 : ((88, [2], none) : aDe) ∈ ra_dep.getD 123 [] := List.mem_of_getElem? (i := 0) rfl
  have m1 : ((90, [], none) : aDe) ∈ ra_dep.getD 123 [] := List.mem_of_getElem? (i := 1) rfl
  obtain ⟨a0, a1, a2, a3, a4, hl, hb⟩ := rC_riiii_e hb
  rw [hl]
  obtain ⟨M, h1, h2⟩ := hb
  exact ⟨M, (rMg_st h m0 (by decide) m1 h1), h2⟩
theorem rs_124 {K : Nat → Nat} {n : Nat} {vs : List jv} {j : Nat} {σ σ' : Nat → jcell} (h : ∀ a, a < n → ∀ q ∈ ra_dep.getD 124 [], q.1 = K a → aSm vs q (σ a) (σ' a)) (hb : rb_124 K n (vs.take j) σ) : rb_124 K n (vs.take j) σ' := by
  have m0 : ((88, [2], none) : aDe) ∈ ra_dep.getD 124 [] := List.mem_of_getElem? (i := 0) rfl
  have m1 : ((90, [], none) : aDe) ∈ ra_dep.getD 124 [] := List.mem_of_getElem? (i := 1) rfl
  obtain ⟨a0, a1, a2, a3, a4, hl, hb⟩ := rC_riiii_e hb
  rw [hl]
  obtain ⟨M, h1, h2⟩ := hb
  exact ⟨M, (rMg_st h m0 (by decide) m1 h1), h2⟩
theorem rs_125 {K : Nat → Nat} {n : Nat} {vs : List jv} {j : Nat} {σ σ' : Nat → jcell} (h : ∀ a, a < n → ∀ q ∈ ra_dep.getD 125 [], q.1 = K a → aSm vs q (σ a) (σ' a)) (hb : rb_125 K n (vs.take j) σ) : rb_125 K n (vs.take j) σ' := by
  have m0 : ((88, [2], none) : aDe) ∈ ra_dep.getD 125 [] := List.mem_of_getElem? (i := 0) rfl
  have m1 : ((90, [], none) : aDe) ∈ ra_dep.getD 125 [] := List.mem_of_getElem? (i := 1) rfl
  obtain ⟨a0, a1, a2, a3, a4, hl, hb⟩ := rC_riiii_e hb
  rw [hl]
  obtain ⟨M, h1, h2⟩ := hb
  exact ⟨M, (rMg_st h m0 (by decide) m1 h1), h2⟩
theorem rs_126 {K : Nat → Nat} {n : Nat} {vs : List jv} {j : Nat} {σ σ' : Nat → jcell} (h : ∀ a, a < n → ∀ q ∈ ra_dep.getD 126 [], q.1 = K a → aSm vs q (σ a) (σ' a)) (hb : rb_126 K n (vs.take j) σ) : rb_126 K n (vs.take j) σ' := by
  have m0 : ((88, [2], none) : aDe) ∈ ra_dep.getD 126 [] := List.mem_of_getElem? (i := 0) rfl
  have m1 : ((90, [], none) : aDe) ∈ ra_dep.getD 126 [] := List.mem_of_getElem? (i := 1) rfl
  obtain ⟨a0, a1, a2, hl, hb⟩ := rC_rii_e hb
  rw [hl]
  obtain ⟨M, h1, h2⟩ := hb
  exact ⟨M, (rMg_st h m0 (by decide) m1 h1), h2⟩
theorem rs_127 {K : Nat → Nat} {n : Nat} {vs : List jv} {j : Nat} {σ σ' : Nat → jcell} (h : ∀ a, a < n → ∀ q ∈ ra_dep.getD 127 [], q.1 = K a → aSm vs q (σ a) (σ' a)) (hb : rb_127 K n (vs.take j) σ) : rb_127 K n (vs.take j) σ' := by
  have m0 : ((88, [2], none) : aDe) ∈ ra_dep.getD 127 [] := List.mem_of_getElem? (i := 0) rfl
  have m1 : ((90, [], none) : aDe) ∈ ra_dep.getD 127 [] := List.mem_of_getElem? (i := 1) rfl
  obtain ⟨a0, a1, a2, hl, hb⟩ := rC_rii_e hb
  rw [hl]
  obtain ⟨M, h1, h2⟩ := hb
  exact ⟨M, (rMg_st h m0 (by decide) m1 h1), h2⟩
theorem rs_128 {K : Nat → Nat} {n : Nat} {vs : List jv} {j : Nat} {σ σ' : Nat → jcell} (h : ∀ a, a < n → ∀ q ∈ ra_dep.getD 128 [], q.1 = K a → aSm vs q (σ a) (σ' a)) (hb : rb_128 K n (vs.take j) σ) : rb_128 K n (vs.take j) σ' := by
  have m0 : ((88, [2], none) : aDe) ∈ ra_dep.getD 128 [] := List.mem_of_getElem? (i := 0) rfl
  have m1 : ((90, [], none) : aDe) ∈ ra_dep.getD 128 [] := List.mem_of_getElem? (i := 1) rfl
  obtain ⟨a0, a1, a2, a3, hl, hb⟩ := rC_riii_e hb
  rw [hl]
  obtain ⟨M, h1, h2⟩ := hb
  exact ⟨M, (rMg_st h m0 (by decide) m1 h1), h2⟩
theorem rs_129 {K : Nat → Nat} {n : Nat} {vs : List jv} {j : Nat} {σ σ' : Nat → jcell} (h : ∀ a, a < n → ∀ q ∈ ra_dep.getD 129 [], q.1 = K a → aSm vs q (σ a) (σ' a)) (hb : rb_129 K n (vs.take j) σ) : rb_129 K n (vs.take j) σ' := by
  have m0 : ((88, [2], none) : aDe) ∈ ra_dep.getD 129 [] := List.mem_of_getElem? (i := 0) rfl
  have m1 : ((90, [], none) : aDe) ∈ ra_dep.getD 129 [] := List.mem_of_getElem? (i := 1) rfl
  obtain ⟨a0, a1, a2, a3, a4, hl, hb⟩ := rC_riiii_e hb
  rw [hl]
  obtain ⟨M, h1, h2⟩ := hb
  exact ⟨M, (rMg_st h m0 (by decide) m1 h1), h2⟩
theorem rs_130 {K : Nat → Nat} {n : Nat} {vs : List jv} {j : Nat} {σ σ' : Nat → jcell} (h : ∀ a, a < n → ∀ q ∈ ra_dep.getD 130 [], q.1 = K a → aSm vs q (σ a) (σ' a)) (hb : rb_130 K n (vs.take j) σ) : rb_130 K n (vs.take j) σ' := by
  have m0 : ((88, [2], none) : aDe) ∈ ra_dep.getD 130 [] := List.mem_of_getElem? (i := 0) rfl
  have m1 : ((90, [], none) : aDe) ∈ ra_dep.getD 130 [] := List.mem_of_getElem? (i := 1) rfl
  obtain ⟨a0, a1, a2, a3, a4, hl, hb⟩ := rC_riiii_e hb
  rw [hl]
  obtain ⟨M, h1, h2⟩ := hb
  exact ⟨M, (rMg_st h m0 (by decide) m1 h1), h2⟩
theorem rs_131 {K : Nat → Nat} {n : Nat} {vs : List jv} {j : Nat} {σ σ' : Nat → jcell} (h : ∀ a, a < n → ∀ q ∈ ra_dep.getD 131 [], q.1 = K a → aSm vs q (σ a) (σ' a)) (hb : rb_131 K n (vs.take j) σ) : rb_131 K n (vs.take j) σ' := by
  have m0 : ((88, [2], none) : aDe) ∈ ra_dep.getD 131 [] := List.mem_of_getElem? (i := 0) rfl
  have m1 : ((90, [], none) : aDe) ∈ ra_dep.getD 131 [] := List.mem_of_getElem? (i := 1) rfl
  obtain ⟨a0, a1, a2, hl, hb⟩ := rC_rii_e hb
  rw [hl]
  obtain ⟨M, h1, h2⟩ := hb
  exact ⟨M, (rMg_st h m0 (by decide) m1 h1), h2⟩
theorem rs_132 {K : Nat → Nat} {n : Nat} {vs : List jv} {j : Nat} {σ σ' : Nat → jcell} (h : ∀ a, a < n → ∀ q ∈ ra_dep.getD 132 [], q.1 = K a → aSm vs q (σ a) (σ' a)) (hb : rb_132 K n (vs.take j) σ) : rb_132 K n (vs.take j) σ' := by
  have m0 : ((88, [2], none) : aDe) ∈ ra_dep.getD 132 [] := List.mem_of_getElem? (i := 0) rfl
  have m1 : ((90, [], none) : aDe) ∈ ra_dep.getD 132 [] := List.mem_of_getElem? (i := 1) rfl
  obtain ⟨a0, a1, a2, a3, hl, hb⟩ := rC_riii_e hb
  rw [hl]
  obtain ⟨M, h1, h2⟩ := hb
  exact ⟨M, (rMg_st h m0 (by decide) m1 h1), h2⟩
theorem rs_133 {K : Nat → Nat} {n : Nat} {vs : List jv} {j : Nat} {σ σ' : Nat → jcell} (h : ∀ a, a < n → ∀ q ∈ ra_dep.getD 133 [], q.1 = K a → aSm vs q (σ a) (σ' a)) (hb : rb_133 K n (vs.take j) σ) : rb_133 K n (vs.take j) σ' := by
  exact hb
theorem rs_134 {K : Nat → Nat} {n : Nat} {vs : List jv} {j : Nat} {σ σ' : Nat → jcell} (h : ∀ a, a < n → ∀ q ∈ ra_dep.getD 134 [], q.1 = K a → aSm vs q (σ a) (σ' a)) (hb : rb_134 K n (vs.take j) σ) : rb_134 K n (vs.take j) σ' := by
  exact hb
theorem rs_135 {K : Nat → Nat} {n : Nat} {vs : List jv} {j : Nat} {σ σ' : Nat → jcell} (h : ∀ a, a < n → ∀ q ∈ ra_dep.getD 135 [], q.1 = K a → aSm vs q (σ a) (σ' a)) (hb : rb_135 K n (vs.take j) σ) : rb_135 K n (vs.take j) σ' := by
  exact hb
theorem rs_136 {K : Nat → Nat} {n : Nat} {vs : List jv} {j : Nat} {σ σ' : Nat → jcell} (h : ∀ a, a < n → ∀ q ∈ ra_dep.getD 136 [], q.1 = K a → aSm vs q (σ a) (σ' a)) (hb : rb_136 K n (vs.take j) σ) : rb_136 K n (vs.take j) σ' := by
  exact hb
theorem rs_137 {K : Nat → Nat} {n : Nat} {vs : List jv} {j : Nat} {σ σ' : Nat → jcell} (h : ∀ a, a < n → ∀ q ∈ ra_dep.getD 137 [], q.1 = K a → aSm vs q (σ a) (σ' a)) (hb : rb_137 K n (vs.take j) σ) : rb_137 K n (vs.take j) σ' := by
  have m0 : ((88, [2], none) : aDe) ∈ ra_dep.getD 137 [] := List.mem_of_getElem? (i := 0) rfl
  have m1 : ((90, [], none) : aDe) ∈ ra_dep.getD 137 [] := List.mem_of_getElem? (i := 1) rfl
  obtain ⟨a0, a1, a2, hl, hb⟩ := rC_rii_e hb
  rw [hl]
  obtain ⟨M, h1, h2⟩ := hb
  exact ⟨M, (rMg_st h m0 (by decide) m1 h1), h2⟩
theorem rs_138 {K : Nat → Nat} {n : Nat} {vs : List jv} {j : Nat} {σ σ' : Nat → jcell} (h : ∀ a, a < n → ∀ q ∈ ra_dep.getD 138 [], q.1 = K a → aSm vs q (σ a) (σ' a)) (hb : rb_138 K n (vs.take j) σ) : rb_138 K n (vs.take j) σ' := by
  have m0 : ((88, [2], none) : aDe) ∈ ra_dep.getD 138 [] := List.mem_of_getElem? (i := 0) rfl
  have m1 : ((90, [], none) : aDe) ∈ ra_dep.getD 138 [] := List.mem_of_getElem? (i := 1) rfl
  obtain ⟨a0, a1, a2, hl, hb⟩ := rC_rii_e hb
  rw [hl]
  obtain ⟨M, h1, h2⟩ := hb
  exact ⟨M, (rMg_st h m0 (by decide) m1 h1), h2⟩
theorem rs_139 {K : Nat → Nat} {n : Nat} {vs : List jv} {j : Nat} {σ σ' : Nat → jcell} (h : ∀ a, a < n → ∀ q ∈ ra_dep.getD 139 [], q.1 = K a → aSm vs q (σ a) (σ' a)) (hb : rb_139 K n (vs.take j) σ) : rb_139 K n (vs.take j) σ' := by
  have m0 : ((88, [2], none) : aDe) ∈ ra_dep.getD 139 [] := List.mem_of_getElem? (i := 0) rfl
  have m1 : ((90, [], none) : aDe) ∈ ra_dep.getD 139 [] := List.mem_of_getElem? (i := 1) rfl
  obtain ⟨a0, hl, hb⟩ := rC_r_e hb
  rw [hl]
  obtain ⟨M, h1, h2⟩ := hb
  exact ⟨M, (rMg_st h m0 (by decide) m1 h1), h2⟩
theorem rs_140 {K : Nat → Nat} {n : Nat} {vs : List jv} {j : Nat} {σ σ' : Nat → jcell} (h : ∀ a, a < n → ∀ q ∈ ra_dep.getD 140 [], q.1 = K a → aSm vs q (σ a) (σ' a)) (hb : rb_140 K n (vs.take j) σ) : rb_140 K n (vs.take j) σ' := by
  have m0 : ((88, [2], none) : aDe) ∈ ra_dep.getD 140 [] := List.mem_of_getElem? (i := 0) rfl
  have m1 : ((90, [], none) : aDe) ∈ ra_dep.getD 140 [] := List.mem_of_getElem? (i := 1) rfl
  obtain ⟨a0, a1, a2, hl, hb⟩ := rC_rii_e hb
  rw [hl]
  obtain ⟨M, h1, h2⟩ := hb
  exact ⟨M, (rMg_st h m0 (by decide) m1 h1), h2⟩
theorem rs_141 {K : Nat → Nat} {n : Nat} {vs : List jv} {j : Nat} {σ σ' : Nat → jcell} (h : ∀ a, a < n → ∀ q ∈ ra_dep.getD 141 [], q.1 = K a → aSm vs q (σ a) (σ' a)) (hb : rb_141 K n (vs.take j) σ) : rb_141 K n (vs.take j) σ' := by
  exact hb
theorem rs_142 {K : Nat → Nat} {n : Nat} {vs : List jv} {j : Nat} {σ σ' : Nat → jcell} (h : ∀ a, a < n → ∀ q ∈ ra_dep.getD 142 [], q.1 = K a → aSm vs q (σ a) (σ' a)) (hb : rb_142 K n (vs.take j) σ) : rb_142 K n (vs.take j) σ' := by
  have m0 : ((88, [2], none) : aDe) ∈ ra_dep.getD 142 [] := List.mem_of_getElem? (i := 0) rfl
  have m1 : ((90, [], none) : aDe) ∈ ra_dep.getD 142 [] := List.mem_of_getElem? (i := 1) rfl
  obtain ⟨a0, a1, a2, a3, a4, a5, hl, hb⟩ := rC_riiiil_e hb
  rw [hl]
  obtain ⟨M, h1, h2⟩ := hb
  exact ⟨M, (rMg_st h m0 (by decide) m1 h1), h2⟩
theorem rs_143 {K : Nat → Nat} {n : Nat} {vs : List jv} {j : Nat} {σ σ' : Nat → jcell} (h : ∀ a, a < n → ∀ q ∈ ra_dep.getD 143 [], q.1 = K a → aSm vs q (σ a) (σ' a)) (hb : rb_143 K n (vs.take j) σ) : rb_143 K n (vs.take j) σ' := by
  have m0 : ((88, [2], none) : aDe) ∈ ra_dep.getD 143 [] := List.mem_of_getElem? (i := 0) rfl
  have m1 : ((90, [], none) : aDe) ∈ ra_dep.getD 143 [] := List.mem_of_getElem? (i := 1) rfl
  obtain ⟨a0, a1, a2, a3, a4, a5, hl, hb⟩ := rC_riiiil_e hb
  rw [hl]
  obtain ⟨M, h1, h2⟩ := hb
  exact ⟨M, (rMg_st h m0 (by decide) m1 h1), h2⟩
theorem rs_144 {K : Nat → Nat} {n : Nat} {vs : List jv} {j : Nat} {σ σ' : Nat → jcell} (h : ∀ a, a < n → ∀ q ∈ ra_dep.getD 144 [], q.1 = K a → aSm vs q (σ a) (σ' a)) (hb : rb_144 K n (vs.take j) σ) : rb_144 K n (vs.take j) σ' := by
  have m0 : ((88, [2], none) : aDe) ∈ ra_dep.getD 144 [] := List.mem_of_getElem? (i := 0) rfl
  have m1 : ((90, [], none) : aDe) ∈ ra_dep.getD 144 [] := List.mem_of_getElem? (i := 1) rfl
  obtain ⟨a0, a1, a2, a3, a4, hl, hb⟩ := rC_riiil_e hb
  rw [hl]
  obtain ⟨M, h1, h2⟩ := hb
  exact ⟨M, (rMg_st h m0 (by decide) m1 h1), h2⟩
theorem rs_145 {K : Nat → Nat} {n : Nat} {vs : List jv} {j : Nat} {σ σ' : Nat → jcell} (h : ∀ a, a < n → ∀ q ∈ ra_dep.getD 145 [], q.1 = K a → aSm vs q (σ a) (σ' a)) (hb : rb_145 K n (vs.take j) σ) : rb_145 K n (vs.take j) σ' := by
  have m0 : ((88, [2], none) : aDe) ∈ ra_dep.getD 145 [] := List.mem_of_getElem? (i := 0) rfl
  have m1 : ((90, [], none) : aDe) ∈ ra_dep.getD 145 [] := List.mem_of_getElem? (i := 1) rfl
  obtain ⟨a0, a1, a2, hl, hb⟩ := rC_rii_e hb
  rw [hl]
  obtain ⟨M, h1, h2⟩ := hb
  exact ⟨M, (rMg_st h m0 (by decide) m1 h1), h2⟩
theorem rs_146 {K : Nat → Nat} {n : Nat} {vs : List jv} {j : Nat} {σ σ' : Nat → jcell} (h : ∀ a, a < n → ∀ q ∈ ra_dep.getD 146 [], q.1 = K a → aSm vs q (σ a) (σ' a)) (hb : rb_146 K n (vs.take j) σ) : rb_146 K n (vs.take j) σ' := by
  have m0 : ((88, [2], none) : aDe) ∈ ra_dep.getD 146 [] := List.mem_of_getElem? (i := 0) rfl
  have m1 : ((90, [], none) : aDe) ∈ ra_dep.getD 146 [] := List.mem_of_getElem? (i := 1) rfl
  obtain ⟨a0, a1, a2, a3, a4, a5, hl, hb⟩ := rC_riiiil_e hb
  rw [hl]
  obtain ⟨M, h1, h2⟩ := hb
  exact ⟨M, (rMg_st h m0 (by decide) m1 h1), h2⟩
theorem rs_147 {K : Nat → Nat} {n : Nat} {vs : List jv} {j : Nat} {σ σ' : Nat → jcell} (h : ∀ a, a < n → ∀ q ∈ ra_dep.getD 147 [], q.1 = K a → aSm vs q (σ a) (σ' a)) (hb : rb_147 K n (vs.take j) σ) : rb_147 K n (vs.take j) σ' := by
  exact hb
theorem rs_148 {K : Nat → Nat} {n : Nat} {vs : List jv} {j : Nat} {σ σ' : Nat → jcell} (h : ∀ a, a < n → ∀ q ∈ ra_dep.getD 148 [], q.1 = K a → aSm vs q (σ a) (σ' a)) (hb : rb_148 K n (vs.take j) σ) : rb_148 K n (vs.take j) σ' := by
  have m0 : ((88, [2], none) : aDe) ∈ ra_dep.getD 148 [] := List.mem_of_getElem? (i := 0) rfl
  have m1 : ((90, [], none) : aDe) ∈ ra_dep.getD 148 [] := List.mem_of_getElem? (i := 1) rfl
  obtain ⟨a0, a1, a2, hl, hb⟩ := rC_rii_e hb
  rw [hl]
  obtain ⟨M, h1, h2⟩ := hb
  exact ⟨M, (rMg_st h m0 (by decide) m1 h1), h2⟩
theorem rs_149 {K : Nat → Nat} {n : Nat} {vs : List jv} {j : Nat} {σ σ' : Nat → jcell} (h : ∀ a, a < n → ∀ q ∈ ra_dep.getD 149 [], q.1 = K a → aSm vs q (σ a) (σ' a)) (hb : rb_149 K n (vs.take j) σ) : rb_149 K n (vs.take j) σ' := by
  have m0 : ((88, [2], none) : aDe) ∈ ra_dep.getD 149 [] := List.mem_of_getElem? (i := 0) rfl
  have m1 : ((90, [], none) : aDe) ∈ ra_dep.getD 149 [] := List.mem_of_getElem? (i := 1) rfl
  obtain ⟨a0, a1, a2, a3, a4, hl, hb⟩ := rC_riiil_e hb
  rw [hl]
  obtain ⟨M, h1, h2⟩ := hb
  exact ⟨M, (rMg_st h m0 (by decide) m1 h1), h2⟩
theorem rs_150 {K : Nat → Nat} {n : Nat} {vs : List jv} {j : Nat} {σ σ' : Nat → jcell} (h : ∀ a, a < n → ∀ q ∈ ra_dep.getD 150 [], q.1 = K a → aSm vs q (σ a) (σ' a)) (hb : rb_150 K n (vs.take j) σ) : rb_150 K n (vs.take j) σ' := by
  have m0 : ((88, [2], none) : aDe) ∈ ra_dep.getD 150 [] := List.mem_of_getElem? (i := 0) rfl
  have m1 : ((90, [], none) : aDe) ∈ ra_dep.getD 150 [] := List.mem_of_getElem? (i := 1) rfl
  obtain ⟨a0, a1, a2, a3, a4, a5, hl, hb⟩ := rC_riiiil_e hb
  rw [hl]
  obtain ⟨M, h1, h2⟩ := hb
  exact ⟨M, (rMg_st h m0 (by decide) m1 h1), h2⟩
theorem rs_151 {K : Nat → Nat} {n : Nat} {vs : List jv} {j : Nat} {σ σ' : Nat → jcell} (h : ∀ a, a < n → ∀ q ∈ ra_dep.getD 151 [], q.1 = K a → aSm vs q (σ a) (σ' a)) (hb : rb_151 K n (vs.take j) σ) : rb_151 K n (vs.take j) σ' := by
  have m0 : ((88, [2], none) : aDe) ∈ ra_dep.getD 151 [] := List.mem_of_getElem? (i := 0) rfl
  have m1 : ((90, [], none) : aDe) ∈ ra_dep.getD 151 [] := List.mem_of_getElem? (i := 1) rfl
  obtain ⟨a0, a1, a2, a3, a4, a5, hl, hb⟩ := rC_riiiil_e hb
  rw [hl]
  obtain ⟨M, h1, h2⟩ := hb
  exact ⟨M, (rMg_st h m0 (by decide) m1 h1), h2⟩
theorem rs_152 {K : Nat → Nat} {n : Nat} {vs : List jv} {j : Nat} {σ σ' : Nat → jcell} (h : ∀ a, a < n → ∀ q ∈ ra_dep.getD 152 [], q.1 = K a → aSm vs q (σ a) (σ' a)) (hb : rb_152 K n (vs.take j) σ) : rb_152 K n (vs.take j) σ' := by
  have m0 : ((88, [2], none) : aDe) ∈ ra_dep.getD 152 [] := List.mem_of_getElem? (i := 0) rfl
  have m1 : ((90, [], none) : aDe) ∈ ra_dep.getD 152 [] := List.mem_of_getElem? (i := 1) rfl
  obtain ⟨a0, a1, a2, a3, a4, hl, hb⟩ := rC_riiil_e hb
  rw [hl]
  obtain ⟨M, h1, h2⟩ := hb
  exact ⟨M, (rMg_st h m0 (by decide) m1 h1), h2⟩
theorem rs_153 {K : Nat → Nat} {n : Nat} {vs : List jv} {j : Nat} {σ σ' : Nat → jcell} (h : ∀ a, a < n → ∀ q ∈ ra_dep.getD 153 [], q.1 = K a → aSm vs q (σ a) (σ' a)) (hb : rb_153 K n (vs.take j) σ) : rb_153 K n (vs.take j) σ' := by
  have m0 : ((88, [2], none) : aDe) ∈ ra_dep.getD 153 [] := List.mem_of_getElem? (i := 0) rfl
  have m1 : ((90, [], none) : aDe) ∈ ra_dep.getD 153 [] := List.mem_of_getElem? (i := 1) rfl
  obtain ⟨a0, a1, a2, hl, hb⟩ := rC_ril_e hb
  rw [hl]
  obtain ⟨M, h1, h2⟩ := hb
  exact ⟨M, (rMg_st h m0 (by decide) m1 h1), h2⟩
theorem rs_154 {K : Nat → Nat} {n : Nat} {vs : List jv} {j : Nat} {σ σ' : Nat → jcell} (h : ∀ a, a < n → ∀ q ∈ ra_dep.getD 154 [], q.1 = K a → aSm vs q (σ a) (σ' a)) (hb : rb_154 K n (vs.take j) σ) : rb_154 K n (vs.take j) σ' := by
  exact hb
theorem rs_155 {K : Nat → Nat} {n : Nat} {vs : List jv} {j : Nat} {σ σ' : Nat → jcell} (h : ∀ a, a < n → ∀ q ∈ ra_dep.getD 155 [], q.1 = K a → aSm vs q (σ a) (σ' a)) (hb : rb_155 K n (vs.take j) σ) : rb_155 K n (vs.take j) σ' := by
  exact hb
theorem rs_156 {K : Nat → Nat} {n : Nat} {vs : List jv} {j : Nat} {σ σ' : Nat → jcell} (h : ∀ a, a < n → ∀ q ∈ ra_dep.getD 156 [], q.1 = K a → aSm vs q (σ a) (σ' a)) (hb : rb_156 K n (vs.take j) σ) : rb_156 K n (vs.take j) σ' := by
  have m0 : ((88, [2], none) : aDe) ∈ ra_dep.getD 156 [] := List.mem_of_getElem? (i := 0) rfl
  have m1 : ((90, [], none) : aDe) ∈ ra_dep.getD 156 [] := List.mem_of_getElem? (i := 1) rfl
  obtain ⟨a0, a1, a2, a3, hl, hb⟩ := rC_riii_e hb
  rw [hl]
  obtain ⟨M, h1, h2⟩ := hb
  exact ⟨M, (rMg_st h m0 (by decide) m1 h1), h2⟩
theorem rs_157 {K : Nat → Nat} {n : Nat} {vs : List jv} {j : Nat} {σ σ' : Nat → jcell} (h : ∀ a, a < n → ∀ q ∈ ra_dep.getD 157 [], q.1 = K a → aSm vs q (σ a) (σ' a)) (hb : rb_157 K n (vs.take j) σ) : rb_157 K n (vs.take j) σ' := by
  exact hb
theorem rs_160 {K : Nat → Nat} {n : Nat} {vs : List jv} {j : Nat} {σ σ' : Nat → jcell} (h : ∀ a, a < n → ∀ q ∈ ra_dep.getD 160 [], q.1 = K a → aSm vs q (σ a) (σ' a)) (hb : rb_160 K n (vs.take j) σ) : rb_160 K n (vs.take j) σ' := by
  exact hb
theorem rs_161 {K : Nat → Nat} {n : Nat} {vs : List jv} {j : Nat} {σ σ' : Nat → jcell} (h : ∀ a, a < n → ∀ q ∈ ra_dep.getD 161 [], q.1 = K a → aSm vs q (σ a) (σ' a)) (hb : rb_161 K n (vs.take j) σ) : rb_161 K n (vs.take j) σ' := by
  exact hb
theorem rs_162 {K : Nat → Nat} {n : Nat} {vs : List jv} {j : Nat} {σ σ' : Nat → jcell} (h : ∀ a, a < n → ∀ q ∈ ra_dep.getD 162 [], q.1 = K a → aSm vs q (σ a) (σ' a)) (hb : rb_162 K n (vs.take j) σ) : rb_162 K n (vs.take j) σ' := by
  exact hb
theorem rs_163 {K : Nat → Nat} {n : Nat} {vs : List jv} {j : Nat} {σ σ' : Nat → jcell} (h : ∀ a, a < n → ∀ q ∈ ra_dep.getD 163 [], q.1 = K a → aSm vs q (σ a) (σ' a)) (hb : rb_163 K n (vs.take j) σ) : rb_163 K n (vs.take j) σ' := by
  exact hb
theorem rs_164 {K : Nat → Nat} {n : Nat} {vs : List jv} {j : Nat} {σ σ' : Nat → jcell} (h : ∀ a, a < n → ∀ q ∈ ra_dep.getD 164 [], q.1 = K a → aSm vs q (σ a) (σ' a)) (hb : rb_164 K n (vs.take j) σ) : rb_164 K n (vs.take j) σ' := by
  exact hb
theorem rs_167 {K : Nat → Nat} {n : Nat} {vs : List jv} {j : Nat} {σ σ' : Nat → jcell} (h : ∀ a, a < n → ∀ q ∈ ra_dep.getD 167 [], q.1 = K a → aSm vs q (σ a) (σ' a)) (hb : rb_167 K n (vs.take j) σ) : rb_167 K n (vs.take j) σ' := by
  exact hb
theorem rs_168 {K : Nat → Nat} {n : Nat} {vs : List jv} {j : Nat} {σ σ' : Nat → jcell} (h : ∀ a, a < n → ∀ q ∈ ra_dep.getD 168 [], q.1 = K a → aSm vs q (σ a) (σ' a)) (hb : rb_168 K n (vs.take j) σ) : rb_168 K n (vs.take j) σ' := by
  have m0 : ((88, [22], none) : aDe) ∈ ra_dep.getD 168 [] := List.mem_of_getElem? (i := 0) rfl
  have m1 : ((104, [], some ([(1, 1)], 1)) : aDe) ∈ ra_dep.getD 168 [] := List.mem_of_getElem? (i := 1) rfl
  obtain ⟨a0, a1, a2, hl, hb⟩ := rC_rii_e hb
  rw [hl]
  have hb : rCT K n σ a0 a1.toInt a2.toInt := hb
  have r9 : rCT K n σ' a0 a1.toInt a2.toInt := by
    obtain ⟨h0, g, r1, e1⟩ := hb
    obtain ⟨n1g, n1, n1e⟩ := rRo_sb h m0 (by decide) m1 (b := (1 * a1.toInt + 1)) (fun x hx => rVa1 (x := a1) hx (rTak (j := j) (by rw [hl]; rfl))) r1
    exact ⟨h0, n1g, n1, by rw [n1e _ (by omega)]; exact e1⟩
  exact r9
theorem rs_169 {K : Nat → Nat} {n : Nat} {vs : List jv} {j : Nat} {σ σ' : Nat → jcell} (h : ∀ a, a < n → ∀ q ∈ ra_dep.getD 169 [], q.1 = K a → aSm vs q (σ a) (σ' a)) (hb : rb_169 K n (vs.take j) σ) : rb_169 K n (vs.take j) σ' := by
  exact hb
theorem rs_170 {K : Nat → Nat} {n : Nat} {vs : List jv} {j : Nat} {σ σ' : Nat → jcell} (h : ∀ a, a < n → ∀ q ∈ ra_dep.getD 170 [], q.1 = K a → aSm vs q (σ a) (σ' a)) (hb : rb_170 K n (vs.take j) σ) : rb_170 K n (vs.take j) σ' := by
  have m0 : ((88, [9, 10, 11, 12], none) : aDe) ∈ ra_dep.getD 170 [] := List.mem_of_getElem? (i := 0) rfl
  have m1 : ((91, [], some ([(1, 64)], 0)) : aDe) ∈ ra_dep.getD 170 [] := List.mem_of_getElem? (i := 1) rfl
  have m2 : ((92, [], some ([(1, 1)], 0)) : aDe) ∈ ra_dep.getD 170 [] := List.mem_of_getElem? (i := 2) rfl
  have m3 : ((93, [], some ([(1, 1)], 0)) : aDe) ∈ ra_dep.getD 170 [] := List.mem_of_getElem? (i := 3) rfl
  have m4 : ((94, [], some ([(1, 1)], 0)) : aDe) ∈ ra_dep.getD 170 [] := List.mem_of_getElem? (i := 4) rfl
  obtain ⟨a0, a1, hl, hb⟩ := rC_ri_e hb
  rw [hl]
  have hb : rPG0 K n σ a0 a1.toInt := hb
  have r9 : rPG0 K n σ' a0 a1.toInt := by
    obtain ⟨gM, gS, gP, r1, r2, r3, kk⟩ := hb
    obtain ⟨n1g, n1, n1e⟩ := rRo_sb h m0 (by decide) m1 (b := (64 * a1.toInt + 0)) (fun x hx => rVa1 (x := a1) hx (rTak (j := j) (by rw [hl]; rfl))) r1
    obtain ⟨n2g, n2, n2e⟩ := rRo_sb h m0 (by decide) m2 (b := (1 * a1.toInt + 0)) (fun x hx => rVa1 (x := a1) hx (rTak (j := j) (by rw [hl]; rfl))) r2
    obtain ⟨n3g, n3, n3e⟩ := rRo_sb h m0 (by decide) m4 (b := (1 * a1.toInt + 0)) (fun x hx => rVa1 (x := a1) hx (rTak (j := j) (by rw [hl]; rfl))) r3
    refine ⟨n1g, n2g, n3g, n1, n2, n3, fun t t1 t2 => rPs_m (q := rPaq gM gS gP t) (fun j j0 j1 => ?_) ?_ ?_ (kk t t1 t2)⟩
    · show (if 0 ≤ j ∧ j ≤ 63 then (gM (64 * t + j).toNat).toInt else 0) = (if 0 ≤ j ∧ j ≤ 63 then (n1g (64 * t + j).toNat).toInt else 0)
      rw [n1e _ (by omega)]
    · show (gS t.toNat).toInt = (n2g t.toNat).toInt
      rw [n2e _ (by omega)]
    · show (gP t.toNat).toInt = (n3g t.toNat).toInt
      rw [n3e _ (by omega)]
  exact r9
theorem rs_171 {K : Nat → Nat} {n : Nat} {vs : List jv} {j : Nat} {σ σ' : Nat → jcell} (h : ∀ a, a < n → ∀ q ∈ ra_dep.getD 171 [], q.1 = K a → aSm vs q (σ a) (σ' a)) (hb : rb_171 K n (vs.take j) σ) : rb_171 K n (vs.take j) σ' := by
  have m0 : ((88, [9, 10, 11, 12], none) : aDe) ∈ ra_dep.getD 171 [] := List.mem_of_getElem? (i := 0) rfl
  have m1 : ((91, [], some ([(1, 64)], 64)) : aDe) ∈ ra_dep.getD 171 [] := List.mem_of_getElem? (i := 1) rfl
  have m2 : ((92, [], some ([(1, 1)], 1)) : aDe) ∈ ra_dep.getD 171 [] := List.mem_of_getElem? (i := 2) rfl
  have m3 : ((93, [], some ([(1, 1)], 1)) : aDe) ∈ ra_dep.getD 171 [] := List.mem_of_getElem? (i := 3) rfl
  have m4 : ((94, [], some ([(1, 1)], 1)) : aDe) ∈ ra_dep.getD 171 [] := List.mem_of_getElem? (i := 4) rfl
  obtain ⟨a0, a1, hl, hb⟩ := rC_ri_e hb
  rw [hl]
  have hb : rPG0 K n σ a0 (a1.toInt + 1) := hb
  have r9 : rPG0 K n σ' a0 (a1.toInt + 1) := by
    obtain ⟨gM, gS, gP, r1, r2, r3, kk⟩ := hb
    obtain ⟨n1g, n1, n1e⟩ := rRo_sb h m0 (by decide) m1 (b := (64 * a1.toInt + 64)) (fun x hx => rVa1 (x := a1) hx (rTak (j := j) (by rw [hl]; rfl))) r1
    obtain ⟨n2g, n2, n2e⟩ := rRo_sb h m0 (by decide) m2 (b := (1 * a1.toInt + 1)) (fun x hx => rVa1 (x := a1) hx (rTak (j := j) (by rw [hl]; rfl))) r2
    obtain ⟨n3g, n3, n3e⟩ := rRo_sb h m0 (by decide) m4 (b := (1 * a1.toInt + 1)) (fun x hx => rVa1 (x := a1) hx (rTak (j := j) (by rw [hl]; rfl))) r3
    refine ⟨n1g, n2g, n3g, n1, n2, n3, fun t t1 t2 => rPs_m (q := rPaq gM gS gP t) (fun j j0 j1 => ?_) ?_ ?_ (kk t t1 t2)⟩
    · show (if 0 ≤ j ∧ j ≤ 63 then (gM (64 * t + j).toNat).toInt else 0) = (if 0 ≤ j ∧ j ≤ 63 then (n1g (64 * t + j).toNat).toInt else 0)
      rw [n1e _ (by omega)]
    · show (gS t.toNat).toInt = (n2g t.toNat).toInt
      rw [n2e _ (by omega)]
    · show (gP t.toNat).toInt = (n3g t.toNat).toInt
      rw [n3e _ (by omega)]
  exact r9
theorem rs_172 {K : Nat → Nat} {n : Nat} {vs : List jv} {j : Nat} {σ σ' : Nat → jcell} (h : ∀ a, a < n → ∀ q ∈ ra_dep.getD 172 [], q.1 = K a → aSm vs q (σ a) (σ' a)) (hb : rb_172 K n (vs.take j) σ) : rb_172 K n (vs.take j) σ' := by
  have m0 : ((88, [9, 10, 11, 12], none) : aDe) ∈ ra_dep.getD 172 [] := List.mem_of_getElem? (i := 0) rfl
  have m1 : ((91, [], some ([(1, 64), (2, 64)], 0)) : aDe) ∈ ra_dep.getD 172 [] := List.mem_of_getElem? (i := 1) rfl
  have m2 : ((92, [], some ([(1, 1), (2, 1)], 0)) : aDe) ∈ ra_dep.getD 172 [] := List.mem_of_getElem? (i := 2) rfl
  have m3 : ((93, [], some ([(1, 1), (2, 1)], 0)) : aDe) ∈ ra_dep.getD 172 [] := List.mem_of_getElem? (i := 3) rfl
  have m4 : ((94, [], some ([(1, 1), (2, 1)], 0)) : aDe) ∈ ra_dep.getD 172 [] := List.mem_of_getElem? (i := 4) rfl
  obtain ⟨a0, a1, a2, hl, hb⟩ := rC_rii_e hb
  rw [hl]
  have hb : rPG0 K n σ a0 (a1.toInt + a2.toInt) := hb
  have r9 : rPG0 K n σ' a0 (a1.toInt + a2.toInt) := by
    obtain ⟨gM, gS, gP, r1, r2, r3, kk⟩ := hb
    obtain ⟨n1g, n1, n1e⟩ := rRo_sb h m0 (by decide) m1 (b := (64 * a1.toInt + 64 * a2.toInt + 0)) (fun x hx => rVa2 (x := a1) (x' := a2) hx (rTak (j := j) (by rw [hl]; rfl)) (rTak (j := j) (by rw [hl]; rfl))) r1
    obtain ⟨n2g, n2, n2e⟩ := rRo_sb h m0 (by decide) m2 (b := (1 * a1.toInt + 1 * a2.toInt + 0)) (fun x hx => rVa2 (x := a1) (x' := a2) hx (rTak (j := j) (by rw [hl]; rfl)) (rTak (j := j) (by rw [hl]; rfl))) r2
    obtain ⟨n3g, n3, n3e⟩ := rRo_sb h m0 (by decide) m4 (b := (1 * a1.toInt + 1 * a2.toInt + 0)) (fun x hx => rVa2 (x := a1) (x' := a2) hx (rTak (j := j) (by rw [hl]; rfl)) (rTak (j := j) (by rw [hl]; rfl))) r3
    refine ⟨n1g, n2g, n3g, n1, n2, n3, fun t t1 t2 => rPs_m (q := rPaq gM gS gP t) (fun j j0 j1 => ?_) ?_ ?_ (kk t t1 t2)⟩
    · show (if 0 ≤ j ∧ j ≤ 63 then (gM (64 * t + j).toNat).toInt else 0) = (if 0 ≤ j ∧ j ≤ 63 then (n1g (64 * t + j).toNat).toInt else 0)
      rw [n1e _ (by omega)]
    · show (gS t.toNat).toInt = (n2g t.toNat).toInt
      rw [n2e _ (by omega)]
    · show (gP t.toNat).toInt = (n3g t.toNat).toInt
      rw [n3e _ (by omega)]
  exact r9
theorem rs_173 {K : Nat → Nat} {n : Nat} {vs : List jv} {j : Nat} {σ σ' : Nat → jcell} (h : ∀ a, a < n → ∀ q ∈ ra_dep.getD 173 [], q.1 = K a → aSm vs q (σ a) (σ' a)) (hb : rb_173 K n (vs.take j) σ) : rb_173 K n (vs.take j) σ' := by
  have m0 : ((88, [9, 10, 11, 12], none) : aDe) ∈ ra_dep.getD 173 [] := List.mem_of_getElem? (i := 0) rfl
  have m1 : ((91, [], some ([(1, 64), (2, 64)], 64)) : aDe) ∈ ra_dep.getD 173 [] := List.mem_of_getElem? (i := 1) rfl
  have m2 : ((92, [], some ([(1, 1), (2, 1)], 1)) : aDe) ∈ ra_dep.getD 173 [] := List.mem_of_getElem? (i := 2) rfl
  have m3 : ((93, [], some ([(1, 1), (2, 1)], 1)) : aDe) ∈ ra_dep.getD 173 [] := List.mem_of_getElem? (i := 3) rfl
  have m4 : ((94, [], some ([(1, 1), (2, 1)], 1)) : aDe) ∈ ra_dep.getD 173 [] := List.mem_of_getElem? (i := 4) rfl
  obtain ⟨a0, a1, a2, hl, hb⟩ := rC_rii_e hb
  rw [hl]
  have hb : rPG0 K n σ a0 (a1.toInt + a2.toInt + 1) := hb
  have r9 : rPG0 K n σ' a0 (a1.toInt + a2.toInt + 1) := by
    obtain ⟨gM, gS, gP, r1, r2, r3, kk⟩ := hb
    obtain ⟨n1g, n1, n1e⟩ := rRo_sb h m0 (by decide) m1 (b := (64 * a1.toInt + 64 * a2.toInt + 64)) (fun x hx => rVa2 (x := a1) (x' := a2) hx (rTak (j := j) (by rw [hl]; rfl)) (rTak (j := j) (by rw [hl]; rfl))) r1
    obtain ⟨n2g, n2, n2e⟩ := rRo_sb h m0 (by decide) m2 (b := (1 * a1.toInt + 1 * a2.toInt + 1)) (fun x hx => rVa2 (x := a1) (x' := a2) hx (rTak (j := j) (by rw [hl]; rfl)) (rTak (j := j) (by rw [hl]; rfl))) r2
    obtain ⟨n3g, n3, n3e⟩ := rRo_sb h m0 (by decide) m4 (b := (1 * a1.toInt + 1 * a2.toInt + 1)) (fun x hx => rVa2 (x := a1) (x' := a2) hx (rTak (j := j) (by rw [hl]; rfl)) (rTak (j := j) (by rw [hl]; rfl))) r3
    refine ⟨n1g, n2g, n3g, n1, n2, n3, fun t t1 t2 => rPs_m (q := rPaq gM gS gP t) (fun j j0 j1 => ?_) ?_ ?_ (kk t t1 t2)⟩
    · show (if 0 ≤ j ∧ j ≤ 63 then (gM (64 * t + j).toNat).toInt else 0) = (if 0 ≤ j ∧ j ≤ 63 then (n1g (64 * t + j).toNat).toInt else 0)
      rw [n1e _ (by omega)]
    · show (gS t.toNat).toInt = (n2g t.toNat).toInt
      rw [n2e _ (by omega)]
    · show (gP t.toNat).toInt = (n3g t.toNat).toInt
      rw [n3e _ (by omega)]
  exact r9
theorem rs_174 {K : Nat → Nat} {n : Nat} {vs : List jv} {j : Nat} {σ σ' : Nat → jcell} (h : ∀ a, a < n → ∀ q ∈ ra_dep.getD 174 [], q.1 = K a → aSm vs q (σ a) (σ' a)) (hb : rb_174 K n (vs.take j) σ) : rb_174 K n (vs.take j) σ' := by
  have m0 : ((88, [9, 10, 11, 12], none) : aDe) ∈ ra_dep.getD 174 [] := List.mem_of_getElem? (i := 0) rfl
  have m1 : ((91, [], some ([(1, 64)], 64)) : aDe) ∈ ra_dep.getD 174 [] := List.mem_of_getElem? (i := 1) rfl
  have m2 : ((92, [], some ([(1, 1)], 1)) : aDe) ∈ ra_dep.getD 174 [] := List.mem_of_getElem? (i := 2) rfl
  have m3 : ((93, [], some ([(1, 1)], 1)) : aDe) ∈ ra_dep.getD 174 [] := List.mem_of_getElem? (i := 3) rfl
  have m4 : ((94, [], some ([(1, 1)], 1)) : aDe) ∈ ra_dep.getD 174 [] := List.mem_of_getElem? (i := 4) rfl
  have m5 : ((88, [2, 3], none) : aDe) ∈ ra_dep.getD 174 [] := List.mem_of_getElem? (i := 5) rfl
  have m6 : ((90, [], none) : aDe) ∈ ra_dep.getD 174 [] := List.mem_of_getElem? (i := 6) rfl
  obtain ⟨a0, a1, a2, hl, hb⟩ := rC_rii_e hb
  rw [hl]
  have hb : a2.toInt = 1 → rAS K n σ a0 a1.toInt 64 := hb
  have r9 : a2.toInt = 1 → rAS K n σ' a0 a1.toInt 64 := by
    intro h9
    obtain ⟨gM, gS, M, v, r1, r2, hm, o3, h0, e1, kk⟩ := hb h9
    obtain ⟨n1g, n1, n1e⟩ := rRo_sb h m0 (by decide) m1 (b := (64 * a1.toInt + 64)) (fun x hx => rVa1 (x := a1) hx (rTak (j := j) (by rw [hl]; rfl))) r1
    obtain ⟨n2g, n2, n2e⟩ := rRo_sb h m0 (by decide) m2 (b := (1 * a1.toInt + 1)) (fun x hx => rVa1 (x := a1) hx (rTak (j := j) (by rw [hl]; rfl))) r2
    exact ⟨n1g, n2g, M, v, n1, n2, (rMg_st h m5 (by decide) m6 hm), (rOb_st h m5 (by decide) o3), h0, by rw [n2e _ (by omega)]; exact e1, fun j j0 j1 j2 => by rw [n1e _ (by omega)]; exact kk j j0 j1 j2⟩
  exact r9
theorem rs_175 {K : Nat → Nat} {n : Nat} {vs : List jv} {j : Nat} {σ σ' : Nat → jcell} (h : ∀ a, a < n → ∀ q ∈ ra_dep.getD 175 [], q.1 = K a → aSm vs q (σ a) (σ' a)) (hb : rb_175 K n (vs.take j) σ) : rb_175 K n (vs.take j) σ' := by
  have m0 : ((88, [9, 10, 11, 12], none) : aDe) ∈ ra_dep.getD 175 [] := List.mem_of_getElem? (i := 0) rfl
  have m1 : ((91, [], some ([(1, 64)], 64)) : aDe) ∈ ra_dep.getD 175 [] := List.mem_of_getElem? (i := 1) rfl
  have m2 : ((92, [], some ([(1, 1)], 1)) : aDe) ∈ ra_dep.getD 175 [] := List.mem_of_getElem? (i := 2) rfl
  have m3 : ((93, [], some ([(1, 1)], 1)) : aDe) ∈ ra_dep.getD 175 [] := List.mem_of_getElem? (i := 3) rfl
  have m4 : ((94, [], some ([(1, 1)], 1)) : aDe) ∈ ra_dep.getD 175 [] := List.mem_of_getElem? (i := 4) rfl
  have m5 : ((88, [2, 3], none) : aDe) ∈ ra_dep.getD 175 [] := List.mem_of_getElem? (i := 5) rfl
  have m6 : ((90, [], none) : aDe) ∈ ra_dep.getD 175 [] := List.mem_of_getElem? (i := 6) rfl
  obtain ⟨a0, a1, a2, hl, hb⟩ := rC_rii_e hb
  rw [hl]
  have hb : a2.toInt = 1 → rAS K n σ a0 a1.toInt 0 := hb
  have r9 : a2.toInt = 1 → rAS K n σ' a0 a1.toInt 0 := by
    intro h9
    obtain ⟨gM, gS, M, v, r1, r2, hm, o3, h0, e1, kk⟩ := hb h9
    obtain ⟨n1g, n1, n1e⟩ := rRo_sb h m0 (by decide) m1 (b := (64 * a1.toInt + 64)) (fun x hx => rVa1 (x := a1) hx (rTak (j := j) (by rw [hl]; rfl))) r1
    obtain ⟨n2g, n2, n2e⟩ := rRo_sb h m0 (by decide) m2 (b := (1 * a1.toInt + 1)) (fun x hx => rVa1 (x := a1) hx (rTak (j := j) (by rw [hl]; rfl))) r2
    exact ⟨n1g, n2g, M, v, n1, n2, (rMg_st h m5 (by decide) m6 hm), (rOb_st h m5 (by decide) o3), h0, by rw [n2e _ (by omega)]; exact e1, fun j j0 j1 j2 => by rw [n1e _ (by omega)]; exact kk j j0 j1 j2⟩
  exact r9
theorem rs_176 {K : Nat → Nat} {n : Nat} {vs : List jv} {j : Nat} {σ σ' : Nat → jcell} (h : ∀ a, a < n → ∀ q ∈ ra_dep.getD 176 [], q.1 = K a → aSm vs q (σ a) (σ' a)) (hb : rb_176 K n (vs.take j) σ) : rb_176 K n (vs.take j) σ' := by
  have m0 : ((88, [9, 10, 11, 12], none) : aDe) ∈ ra_dep.getD 176 [] := List.mem_of_getElem? (i := 0) rfl
  have m1 : ((91, [], some ([(1, 64)], 64)) : aDe) ∈ ra_dep.getD 176 [] := List.mem_of_getElem? (i := 1) rfl
  have m2 : ((92, [], some ([(1, 1)], 1)) : aDe) ∈ ra_dep.getD 176 [] := List.mem_of_getElem? (i := 2) rfl
  have m3 : ((93, [], some ([(1, 1)], 1)) : aDe) ∈ ra_dep.getD 176 [] := List.mem_of_getElem? (i := 3) rfl
  have m4 : ((94, [], some ([(1, 1)], 1)) : aDe) ∈ ra_dep.getD 176 [] := List.mem_of_getElem? (i := 4) rfl
  have m5 : ((88, [2, 3], none) : aDe) ∈ ra_dep.getD 176 [] := List.mem_of_getElem? (i := 5) rfl
  have m6 : ((90, [], none) : aDe) ∈ ra_dep.getD 176 [] := List.mem_of_getElem? (i := 6) rfl
  obtain ⟨a0, a1, a2, a3, hl, hb⟩ := rC_riii_e hb
  rw [hl]
  have hb : a3.toInt = 1 → rAS K n σ a0 a1.toInt a2.toInt := hb
  have r9 : a3.toInt = 1 → rAS K n σ' a0 a1.toInt a2.toInt := by
    intro h9
    obtain ⟨gM, gS, M, v, r1, r2, hm, o3, h0, e1, kk⟩ := hb h9
    obtain ⟨n1g, n1, n1e⟩ := rRo_sb h m0 (by decide) m1 (b := (64 * a1.toInt + 64)) (fun x hx => rVa1 (x := a1) hx (rTak (j := j) (by rw [hl]; rfl))) r1
    obtain ⟨n2g, n2, n2e⟩ := rRo_sb h m0 (by decide) m2 (b := (1 * a1.toInt + 1)) (fun x hx => rVa1 (x := a1) hx (rTak (j := j) (by rw [hl]; rfl))) r2
    exact ⟨n1g, n2g, M, v, n1, n2, (rMg_st h m5 (by decide) m6 hm), (rOb_st h m5 (by decide) o3), h0, by rw [n2e _ (by omega)]; exact e1, fun j j0 j1 j2 => by rw [n1e _ (by omega)]; exact kk j j0 j1 j2⟩
  exact r9
theorem rs_177 {K : Nat → Nat} {n : Nat} {vs : List jv} {j : Nat} {σ σ' : Nat → jcell} (h : ∀ a, a < n → ∀ q ∈ ra_dep.getD 177 [], q.1 = K a → aSm vs q (σ a) (σ' a)) (hb : rb_177 K n (vs.take j) σ) : rb_177 K n (vs.take j) σ' := by
  have m0 : ((88, [9, 10, 11, 12], none) : aDe) ∈ ra_dep.getD 177 [] := List.mem_of_getElem? (i := 0) rfl
  have m1 : ((91, [], some ([(1, 64)], 64)) : aDe) ∈ ra_dep.getD 177 [] := List.mem_of_getElem? (i := 1) rfl
  have m2 : ((92, [], some ([(1, 1)], 1)) : aDe) ∈ ra_dep.getD 177 [] := List.mem_of_getElem? (i := 2) rfl
  have m3 : ((93, [], some ([(1, 1)], 1)) : aDe) ∈ ra_dep.getD 177 [] := List.mem_of_getElem? (i := 3) rfl
  have m4 : ((94, [], some ([(1, 1)], 1)) : aDe) ∈ ra_dep.getD 177 [] := List.mem_of_getElem? (i := 4) rfl
  have m5 : ((88, [2, 3], none) : aDe) ∈ ra_dep.getD 177 [] := List.mem_of_getElem? (i := 5) rfl
  have m6 : ((90, [], none) : aDe) ∈ ra_dep.getD 177 [] := List.mem_of_getElem? (i := 6) rfl
  obtain ⟨a0, a1, a2, a3, hl, hb⟩ := rC_riii_e hb
  rw [hl]
  have hb : a3.toInt = 1 → rAS K n σ a0 a1.toInt (a2.toInt + 1) := hb
  have r9 : a3.toInt = 1 → rAS K n σ' a0 a1.toInt (a2.toInt + 1) := by
    intro h9
    obtain ⟨gM, gS, M, v, r1, r2, hm, o3, h0, e1, kk⟩ := hb h9
    obtain ⟨n1g, n1, n1e⟩ := rRo_sb h m0 (by decide) m1 (b := (64 * a1.toInt + 64)) (fun x hx => rVa1 (x := a1) hx (rTak (j := j) (by rw [hl]; rfl))) r1
    obtain ⟨n2g, n2, n2e⟩ := rRo_sb h m0 (by decide) m2 (b := (1 * a1.toInt + 1)) (fun x hx => rVa1 (x := a1) hx (rTak (j := j) (by rw [hl]; rfl))) r2
    exact ⟨n1g, n2g, M, v, n1, n2, (rMg_st h m5 (by decide) m6 hm), (rOb_st h m5 (by decide) o3), h0, by rw [n2e _ (by omega)]; exact e1, fun j j0 j1 j2 => by rw [n1e _ (by omega)]; exact kk j j0 j1 j2⟩
  exact r9
theorem rs_179 {K : Nat → Nat} {n : Nat} {vs : List jv} {j : Nat} {σ σ' : Nat → jcell} (h : ∀ a, a < n → ∀ q ∈ ra_dep.getD 179 [], q.1 = K a → aSm vs q (σ a) (σ' a)) (hb : rb_179 K n (vs.take j) σ) : rb_179 K n (vs.take j) σ' := by
  have m0 : ((88, [22], none) : aDe) ∈ ra_dep.getD 179 [] := List.mem_of_getElem? (i := 0) rfl
  have m1 : ((104, [], some ([(1, 1)], 1)) : aDe) ∈ ra_dep.getD 179 [] := List.mem_of_getElem? (i := 1) rfl
  obtain ⟨a0, a1, hl, hb⟩ := rC_ri_e hb
  rw [hl]
  have hb : ∃ c, 1 ≤ c ∧ rCT K n σ a0 a1.toInt c := hb
  have r9 : ∃ c, 1 ≤ c ∧ rCT K n σ' a0 a1.toInt c := by
    obtain ⟨c, hc, h0, g, r1, e1⟩ := hb
    obtain ⟨n1g, n1, n1e⟩ := rRo_sb h m0 (by decide) m1 (b := (1 * a1.toInt + 1)) (fun x hx => rVa1 (x := a1) hx (rTak (j := j) (by rw [hl]; rfl))) r1
    exact ⟨c, hc, h0, n1g, n1, by rw [n1e _ (by omega)]; exact e1⟩
  exact r9
theorem rs_181 {K : Nat → Nat} {n : Nat} {vs : List jv} {j : Nat} {σ σ' : Nat → jcell} (h : ∀ a, a < n → ∀ q ∈ ra_dep.getD 181 [], q.1 = K a → aSm vs q (σ a) (σ' a)) (hb : rb_181 K n (vs.take j) σ) : rb_181 K n (vs.take j) σ' := by
  have m0 : ((88, [22], none) : aDe) ∈ ra_dep.getD 181 [] := List.mem_of_getElem? (i := 0) rfl
  have m1 : ((104, [], some ([(1, 1)], 1)) : aDe) ∈ ra_dep.getD 181 [] := List.mem_of_getElem? (i := 1) rfl
  obtain ⟨a0, a1, a2, hl, hb⟩ := rC_rii_e hb
  rw [hl]
  have hb : a2.toInt = 0 → ∃ c, 1 ≤ c ∧ rCT K n σ a0 a1.toInt c := hb
  have r9 : a2.toInt = 0 → ∃ c, 1 ≤ c ∧ rCT K n σ' a0 a1.toInt c := by
    intro h9
    obtain ⟨c, hc, h0, g, r1, e1⟩ := hb h9
    obtain ⟨n1g, n1, n1e⟩ := rRo_sb h m0 (by decide) m1 (b := (1 * a1.toInt + 1)) (fun x hx => rVa1 (x := a1) hx (rTak (j := j) (by rw [hl]; rfl))) r1
    exact ⟨c, hc, h0, n1g, n1, by rw [n1e _ (by omega)]; exact e1⟩
  exact r9
theorem rs_182 {K : Nat → Nat} {n : Nat} {vs : List jv} {j : Nat} {σ σ' : Nat → jcell} (h : ∀ a, a < n → ∀ q ∈ ra_dep.getD 182 [], q.1 = K a → aSm vs q (σ a) (σ' a)) (hb : rb_182 K n (vs.take j) σ) : rb_182 K n (vs.take j) σ' := by
  have m0 : ((88, [33, 34], none) : aDe) ∈ ra_dep.getD 182 [] := List.mem_of_getElem? (i := 0) rfl
  have m1 : ((107, [], none) : aDe) ∈ ra_dep.getD 182 [] := List.mem_of_getElem? (i := 1) rfl
  have m2 : ((108, [], some ([(1, 1)], 0)) : aDe) ∈ ra_dep.getD 182 [] := List.mem_of_getElem? (i := 2) rfl
  unfold rb_182 at hb
  rcases hb with hb | hb
  · obtain ⟨a0, a1, hl, hb⟩ := rC_ri_e hb
    rw [hl]
    have hb : rHP K n σ a0 a1.toInt := hb
    have r9 : rHP K n σ' a0 a1.toInt := by
      obtain ⟨g, g2, r1, r2, kk⟩ := hb
      obtain ⟨n2g, n2, n2e⟩ := rRo_sb h m0 (by decide) m2 (b := (1 * a1.toInt + 0)) (fun x hx => rVa1 (x := a1) hx (rTak (j := j) (by rw [hl]; rfl))) r2
      exact ⟨g, n2g, (rRo_st h m0 (by decide) m1 r1), n2, fun j j0 j1 => by rw [n2e _ (by omega)]; exact kk j j0 j1⟩
    refine Or.inl ?_
    exact r9
  · obtain ⟨a0, a1, a2, hl, hb⟩ := rC_rii_e hb
    rw [hl]
    have hb : a2.toInt = 1 → rHP K n σ a0 a1.toInt := hb
    have r9 : a2.toInt = 1 → rHP K n σ' a0 a1.toInt := by
      intro h9
      obtain ⟨g, g2, r1, r2, kk⟩ := hb h9
      obtain ⟨n2g, n2, n2e⟩ := rRo_sb h m0 (by decide) m2 (b := (1 * a1.toInt + 0)) (fun x hx => rVa1 (x := a1) hx (rTak (j := j) (by rw [hl]; rfl))) r2
      exact ⟨g, n2g, (rRo_st h m0 (by decide) m1 r1), n2, fun j j0 j1 => by rw [n2e _ (by omega)]; exact kk j j0 j1⟩
    refine Or.inr (?_)
    exact r9
theorem rs_183 {K : Nat → Nat} {n : Nat} {vs : List jv} {j : Nat} {σ σ' : Nat → jcell} (h : ∀ a, a < n → ∀ q ∈ ra_dep.getD 183 [], q.1 = K a → aSm vs q (σ a) (σ' a)) (hb : rb_183 K n (vs.take j) σ) : rb_183 K n (vs.take j) σ' := by
  have m0 : ((88, [33, 34], none) : aDe) ∈ ra_dep.getD 183 [] := List.mem_of_getElem? (i := 0) rfl
  have m1 : ((107, [], none) : aDe) ∈ ra_dep.getD 183 [] := List.mem_of_getElem? (i := 1) rfl
  have m2 : ((108, [], some ([(1, 1)], 1)) : aDe) ∈ ra_dep.getD 183 [] := List.mem_of_getElem? (i := 2) rfl
  obtain ⟨a0, a1, hl, hb⟩ := rC_ri_e hb
  rw [hl]
  have hb : rHP K n σ a0 (a1.toInt + 1) := hb
  have r9 : rHP K n σ' a0 (a1.toInt + 1) := by
    obtain ⟨g, g2, r1, r2, kk⟩ := hb
    obtain ⟨n2g, n2, n2e⟩ := rRo_sb h m0 (by decide) m2 (b := (1 * a1.toInt + 1)) (fun x hx => rVa1 (x := a1) hx (rTak (j := j) (by rw [hl]; rfl))) r2
    exact ⟨g, n2g, (rRo_st h m0 (by decide) m1 r1), n2, fun j j0 j1 => by rw [n2e _ (by omega)]; exact kk j j0 j1⟩
  exact r9
theorem rs_184 {K : Nat → Nat} {n : Nat} {vs : List jv} {j : Nat} {σ σ' : Nat → jcell} (h : ∀ a, a < n → ∀ q ∈ ra_dep.getD 184 [], q.1 = K a → aSm vs q (σ a) (σ' a)) (hb : rb_184 K n (vs.take j) σ) : rb_184 K n (vs.take j) σ' := by
  have m0 : ((105, [], some ([], 1)) : aDe) ∈ ra_dep.getD 184 [] := List.mem_of_getElem? (i := 0) rfl
  obtain ⟨a0, a1, hl, hb⟩ := rC_ri_e hb
  rw [hl]
  have hb : ∃ g, rRw K n σ a0 105 4 g ∧ (g 0).toInt = a1.toInt := hb
  have r9 : ∃ g, rRw K n σ' a0 105 4 g ∧ (g 0).toInt = a1.toInt := by
    obtain ⟨g, r1, e1⟩ := hb
    obtain ⟨n1g, n1, n1e⟩ := rRw_sb h m0 (b := 1) (fun x hx => rVa0 hx) r1
    exact ⟨n1g, n1, by rw [n1e _ (by omega)]; exact e1⟩
  exact r9
theorem rs_185 {K : Nat → Nat} {n : Nat} {vs : List jv} {j : Nat} {σ σ' : Nat → jcell} (h : ∀ a, a < n → ∀ q ∈ ra_dep.getD 185 [], q.1 = K a → aSm vs q (σ a) (σ' a)) (hb : rb_185 K n (vs.take j) σ) : rb_185 K n (vs.take j) σ' := by
  have m0 : ((105, [], some ([], 2)) : aDe) ∈ ra_dep.getD 185 [] := List.mem_of_getElem? (i := 0) rfl
  obtain ⟨a0, a1, hl, hb⟩ := rC_ri_e hb
  rw [hl]
  have hb : ∃ g, rRw K n σ a0 105 4 g ∧ (g 1).toInt = a1.toInt := hb
  have r9 : ∃ g, rRw K n σ' a0 105 4 g ∧ (g 1).toInt = a1.toInt := by
    obtain ⟨g, r1, e1⟩ := hb
    obtain ⟨n1g, n1, n1e⟩ := rRw_sb h m0 (b := 2) (fun x hx => rVa0 hx) r1
    exact ⟨n1g, n1, by rw [n1e _ (by omega)]; exact e1⟩
  exact r9
theorem rs_186 {K : Nat → Nat} {n : Nat} {vs : List jv} {j : Nat} {σ σ' : Nat → jcell} (h : ∀ a, a < n → ∀ q ∈ ra_dep.getD 186 [], q.1 = K a → aSm vs q (σ a) (σ' a)) (hb : rb_186 K n (vs.take j) σ) : rb_186 K n (vs.take j) σ' := by
  have m0 : ((105, [], some ([], 3)) : aDe) ∈ ra_dep.getD 186 [] := List.mem_of_getElem? (i := 0) rfl
  obtain ⟨a0, a1, hl, hb⟩ := rC_ri_e hb
  rw [hl]
  have hb : ∃ g, rRw K n σ a0 105 4 g ∧ (g 2).toInt = a1.toInt := hb
  have r9 : ∃ g, rRw K n σ' a0 105 4 g ∧ (g 2).toInt = a1.toInt := by
    obtain ⟨g, r1, e1⟩ := hb
    obtain ⟨n1g, n1, n1e⟩ := rRw_sb h m0 (b := 3) (fun x hx => rVa0 hx) r1
    exact ⟨n1g, n1, by rw [n1e _ (by omega)]; exact e1⟩
  exact r9
theorem rs_187 {K : Nat → Nat} {n : Nat} {vs : List jv} {j : Nat} {σ σ' : Nat → jcell} (h : ∀ a, a < n → ∀ q ∈ ra_dep.getD 187 [], q.1 = K a → aSm vs q (σ a) (σ' a)) (hb : rb_187 K n (vs.take j) σ) : rb_187 K n (vs.take j) σ' := by
  have m0 : ((105, [], some ([], 4)) : aDe) ∈ ra_dep.getD 187 [] := List.mem_of_getElem? (i := 0) rfl
  obtain ⟨a0, a1, hl, hb⟩ := rC_ri_e hb
  rw [hl]
  have hb : ∃ g, rRw K n σ a0 105 4 g ∧ (g 3).toInt = a1.toInt := hb
  have r9 : ∃ g, rRw K n σ' a0 105 4 g ∧ (g 3).toInt = a1.toInt := by
    obtain ⟨g, r1, e1⟩ := hb
    obtain ⟨n1g, n1, n1e⟩ := rRw_sb h m0 (b := 4) (fun x hx => rVa0 hx) r1
    exact ⟨n1g, n1, by rw [n1e _ (by omega)]; exact e1⟩
  exact r9
theorem rs_188 {K : Nat → Nat} {n : Nat} {vs : List jv} {j : Nat} {σ σ' : Nat → jcell} (h : ∀ a, a < n → ∀ q ∈ ra_dep.getD 188 [], q.1 = K a → aSm vs q (σ a) (σ' a)) (hb : rb_188 K n (vs.take j) σ) : rb_188 K n (vs.take j) σ' := by
  have m0 : ((88, [34], none) : aDe) ∈ ra_dep.getD 188 [] := List.mem_of_getElem? (i := 0) rfl
  have m1 : ((108, [], some ([(1, 1)], 1)) : aDe) ∈ ra_dep.getD 188 [] := List.mem_of_getElem? (i := 1) rfl
  obtain ⟨a0, a1, a2, hl, hb⟩ := rC_rii_e hb
  rw [hl]
  have hb : 0 ≤ a1.toInt ∧ ∃ g, rRo K n σ a0 88 34 108 4 g ∧ (g a1.toInt.toNat).toInt = a2.toInt := hb
  have r9 : 0 ≤ a1.toInt ∧ ∃ g, rRo K n σ' a0 88 34 108 4 g ∧ (g a1.toInt.toNat).toInt = a2.toInt := by
    obtain ⟨h0, g, r1, e1⟩ := hb
    obtain ⟨n1g, n1, n1e⟩ := rRo_sb h m0 (by decide) m1 (b := (1 * a1.toInt + 1)) (fun x hx => rVa1 (x := a1) hx (rTak (j := j) (by rw [hl]; rfl))) r1
    exact ⟨h0, n1g, n1, by rw [n1e _ (by omega)]; exact e1⟩
  exact r9
theorem rs_189 {K : Nat → Nat} {n : Nat} {vs : List jv} {j : Nat} {σ σ' : Nat → jcell} (h : ∀ a, a < n → ∀ q ∈ ra_dep.getD 189 [], q.1 = K a → aSm vs q (σ a) (σ' a)) (hb : rb_189 K n (vs.take j) σ) : rb_189 K n (vs.take j) σ' := by
  have m0 : ((88, [1, 0], none) : aDe) ∈ ra_dep.getD 189 [] := List.mem_of_getElem? (i := 0) rfl
  have m1 : ((89, [], none) : aDe) ∈ ra_dep.getD 189 [] := List.mem_of_getElem? (i := 1) rfl
  obtain ⟨a0, a1, a2, hl, hb⟩ := rC_rii_e hb
  rw [hl]
  have hb : rSGN K n σ a0 a1.toInt a2.toInt := hb
  have r9 : rSGN K n σ' a0 a1.toInt a2.toInt := by
    obtain ⟨g, t, r1, o1, e1⟩ := hb
    exact ⟨g, t, rTx_st h m0 (by decide) m1 r1, (rOb_st h m0 (by decide) o1), e1⟩
  exact r9
theorem rs_190 {K : Nat → Nat} {n : Nat} {vs : List jv} {j : Nat} {σ σ' : Nat → jcell} (h : ∀ a, a < n → ∀ q ∈ ra_dep.getD 190 [], q.1 = K a → aSm vs q (σ a) (σ' a)) (hb : rb_190 K n (vs.take j) σ) : rb_190 K n (vs.take j) σ' := by
  exact hb
theorem rs_191 {K : Nat → Nat} {n : Nat} {vs : List jv} {j : Nat} {σ σ' : Nat → jcell} (h : ∀ a, a < n → ∀ q ∈ ra_dep.getD 191 [], q.1 = K a → aSm vs q (σ a) (σ' a)) (hb : rb_191 K n (vs.take j) σ) : rb_191 K n (vs.take j) σ' := by
  exact hb
theorem rs_192 {K : Nat → Nat} {n : Nat} {vs : List jv} {j : Nat} {σ σ' : Nat → jcell} (h : ∀ a, a < n → ∀ q ∈ ra_dep.getD 192 [], q.1 = K a → aSm vs q (σ a) (σ' a)) (hb : rb_192 K n (vs.take j) σ) : rb_192 K n (vs.take j) σ' := by
  have m0 : ((88, [2], none) : aDe) ∈ ra_dep.getD 192 [] := List.mem_of_getElem? (i := 0) rfl
  have m1 : ((90, [], none) : aDe) ∈ ra_dep.getD 192 [] := List.mem_of_getElem? (i := 1) rfl
  obtain ⟨a0, a1, a2, a3, hl, hb⟩ := rC_riii_e hb
  rw [hl]
  obtain ⟨M, h1, h2⟩ := hb
  exact ⟨M, (rMg_st h m0 (by decide) m1 h1), h2⟩
theorem rs_193 {K : Nat → Nat} {n : Nat} {vs : List jv} {j : Nat} {σ σ' : Nat → jcell} (h : ∀ a, a < n → ∀ q ∈ ra_dep.getD 193 [], q.1 = K a → aSm vs q (σ a) (σ' a)) (hb : rb_193 K n (vs.take j) σ) : rb_193 K n (vs.take j) σ' := by
  have m0 : ((88, [2], none) : aDe) ∈ ra_dep.getD 193 [] := List.mem_of_getElem? (i := 0) rfl
  have m1 : ((90, [], none) : aDe) ∈ ra_dep.getD 193 [] := List.mem_of_getElem? (i := 1) rfl
  unfold rb_193 at hb
  rcases hb with hb | hb
  · obtain ⟨a0, hl, hb⟩ := rC_r_e hb
    rw [hl]
    obtain ⟨M, h1, h2⟩ := hb
    refine Or.inl ?_
    exact ⟨M, (rMg_st h m0 (by decide) m1 h1), h2⟩
  · obtain ⟨a0, a1, a2, a3, hl, hb⟩ := rC_riii_e hb
    rw [hl]
    obtain ⟨M, h1, h2⟩ := hb
    refine Or.inr (?_)
    exact ⟨M, (rMg_st h m0 (by decide) m1 h1), h2⟩
theorem rs_194 {K : Nat → Nat} {n : Nat} {vs : List jv} {j : Nat} {σ σ' : Nat → jcell} (h : ∀ a, a < n → ∀ q ∈ ra_dep.getD 194 [], q.1 = K a → aSm vs q (σ a) (σ' a)) (hb : rb_194 K n (vs.take j) σ) : rb_194 K n (vs.take j) σ' := by
  have m0 : ((88, [2], none) : aDe) ∈ ra_dep.getD 194 [] := List.mem_of_getElem? (i := 0) rfl
  have m1 : ((90, [], none) : aDe) ∈ ra_dep.getD 194 [] := List.mem_of_getElem? (i := 1) rfl
  obtain ⟨a0, a1, a2, hl, hb⟩ := rC_rii_e hb
  rw [hl]
  obtain ⟨M, h1, h2⟩ := hb
  exact ⟨M, (rMg_st h m0 (by decide) m1 h1), h2⟩
theorem rs_195 {K : Nat → Nat} {n : Nat} {vs : List jv} {j : Nat} {σ σ' : Nat → jcell} (h : ∀ a, a < n → ∀ q ∈ ra_dep.getD 195 [], q.1 = K a → aSm vs q (σ a) (σ' a)) (hb : rb_195 K n (vs.take j) σ) : rb_195 K n (vs.take j) σ' := by
  have m0 : ((88, [2, 3, 4, 5], none) : aDe) ∈ ra_dep.getD 195 [] := List.mem_of_getElem? (i := 0) rfl
  have m1 : ((90, [], none) : aDe) ∈ ra_dep.getD 195 [] := List.mem_of_getElem? (i := 1) rfl
  obtain ⟨a0, a1, hl, hb⟩ := rC_ri_e hb
  rw [hl]
  have hb : a1.toInt = 0 → rPSW K n σ a0 := hb
  have r9 : a1.toInt = 0 → rPSW K n σ' a0 := by
    intro h9
    obtain ⟨M, v, P, hm, o1, o2, e1⟩ := hb h9
    exact ⟨M, v, P, (rMg_st h m0 (by decide) m1 hm), (rOb_st h m0 (by decide) o1), (rOb_st h m0 (by decide) o2), e1⟩
  exact r9
theorem rs_197 {K : Nat → Nat} {n : Nat} {vs : List jv} {j : Nat} {σ σ' : Nat → jcell} (h : ∀ a, a < n → ∀ q ∈ ra_dep.getD 197 [], q.1 = K a → aSm vs q (σ a) (σ' a)) (hb : rb_197 K n (vs.take j) σ) : rb_197 K n (vs.take j) σ' := by
  have m0 : ((88, [2, 3, 4, 5], none) : aDe) ∈ ra_dep.getD 197 [] := List.mem_of_getElem? (i := 0) rfl
  have m1 : ((90, [], none) : aDe) ∈ ra_dep.getD 197 [] := List.mem_of_getElem? (i := 1) rfl
  obtain ⟨a0, a1, hl, hb⟩ := rC_ri_e hb
  rw [hl]
  have hb : a1.toInt = 0 → rFO K n σ a0 := hb
  have r9 : a1.toInt = 0 → rFO K n σ' a0 := by
    intro h9
    obtain ⟨M, v, P, hm, o1, o2, e1⟩ := hb h9
    exact ⟨M, v, P, (rMg_st h m0 (by decide) m1 hm), (rOb_st h m0 (by decide) o1), (rOb_st h m0 (by decide) o2), e1⟩
  exact r9
theorem rs_198 {K : Nat → Nat} {n : Nat} {vs : List jv} {j : Nat} {σ σ' : Nat → jcell} (h : ∀ a, a < n → ∀ q ∈ ra_dep.getD 198 [], q.1 = K a → aSm vs q (σ a) (σ' a)) (hb : rb_198 K n (vs.take j) σ) : rb_198 K n (vs.take j) σ' := by
  exact hb
theorem rs_199 {K : Nat → Nat} {n : Nat} {vs : List jv} {j : Nat} {σ σ' : Nat → jcell} (h : ∀ a, a < n → ∀ q ∈ ra_dep.getD 199 [], q.1 = K a → aSm vs q (σ a) (σ' a)) (hb : rb_199 K n (vs.take j) σ) : rb_199 K n (vs.take j) σ' := by
  exact hb
theorem rs_200 {K : Nat → Nat} {n : Nat} {vs : List jv} {j : Nat} {σ σ' : Nat → jcell} (h : ∀ a, a < n → ∀ q ∈ ra_dep.getD 200 [], q.1 = K a → aSm vs q (σ a) (σ' a)) (hb : rb_200 K n (vs.take j) σ) : rb_200 K n (vs.take j) σ' := by
  have m0 : ((62, [24], none) : aDe) ∈ ra_dep.getD 200 [] := List.mem_of_getElem? (i := 0) rfl
  have m1 : ((82, [], none) : aDe) ∈ ra_dep.getD 200 [] := List.mem_of_getElem? (i := 1) rfl
  obtain ⟨a0, a1, a2, a3, hl, hb⟩ := rC_riii_e hb
  rw [hl]
  obtain ⟨M, h1, h2⟩ := hb
  exact ⟨M, (rMg_st h m0 (by decide) m1 h1), h2⟩
theorem rs_201 {K : Nat → Nat} {n : Nat} {vs : List jv} {j : Nat} {σ σ' : Nat → jcell} (h : ∀ a, a < n → ∀ q ∈ ra_dep.getD 201 [], q.1 = K a → aSm vs q (σ a) (σ' a)) (hb : rb_201 K n (vs.take j) σ) : rb_201 K n (vs.take j) σ' := by
  have m0 : ((62, [24], none) : aDe) ∈ ra_dep.getD 201 [] := List.mem_of_getElem? (i := 0) rfl
  have m1 : ((82, [], none) : aDe) ∈ ra_dep.getD 201 [] := List.mem_of_getElem? (i := 1) rfl
  obtain ⟨a0, a1, a2, a3, a4, hl, hb⟩ := rC_riiii_e hb
  rw [hl]
  obtain ⟨M, h1, h2⟩ := hb
  exact ⟨M, (rMg_st h m0 (by decide) m1 h1), h2⟩
theorem rs_202 {K : Nat → Nat} {n : Nat} {vs : List jv} {j : Nat} {σ σ' : Nat → jcell} (h : ∀ a, a < n → ∀ q ∈ ra_dep.getD 202 [], q.1 = K a → aSm vs q (σ a) (σ' a)) (hb : rb_202 K n (vs.take j) σ) : rb_202 K n (vs.take j) σ' := by
  have m0 : ((62, [24], none) : aDe) ∈ ra_dep.getD 202 [] := List.mem_of_getElem? (i := 0) rfl
  have m1 : ((82, [], none) : aDe) ∈ ra_dep.getD 202 [] := List.mem_of_getElem? (i := 1) rfl
  obtain ⟨a0, a1, a2, a3, a4, hl, hb⟩ := rC_riiii_e hb
  rw [hl]
  obtain ⟨M, h1, h2⟩ := hb
  exact ⟨M, (rMg_st h m0 (by decide) m1 h1), h2⟩
theorem rs_203 {K : Nat → Nat} {n : Nat} {vs : List jv} {j : Nat} {σ σ' : Nat → jcell} (h : ∀ a, a < n → ∀ q ∈ ra_dep.getD 203 [], q.1 = K a → aSm vs q (σ a) (σ' a)) (hb : rb_203 K n (vs.take j) σ) : rb_203 K n (vs.take j) σ' := by
  have m0 : ((62, [24], none) : aDe) ∈ ra_dep.getD 203 [] := List.mem_of_getElem? (i := 0) rfl
  have m1 : ((82, [], none) : aDe) ∈ ra_dep.getD 203 [] := List.mem_of_getElem? (i := 1) rfl
  obtain ⟨a0, a1, a2, a3, a4, hl, hb⟩ := rC_riiii_e hb
  rw [hl]
  obtain ⟨M, h1, h2⟩ := hb
  exact ⟨M, (rMg_st h m0 (by decide) m1 h1), h2⟩
theorem rs_204 {K : Nat → Nat} {n : Nat} {vs : List jv} {j : Nat} {σ σ' : Nat → jcell} (h : ∀ a, a < n → ∀ q ∈ ra_dep.getD 204 [], q.1 = K a → aSm vs q (σ a) (σ' a)) (hb : rb_204 K n (vs.take j) σ) : rb_204 K n (vs.take j) σ' := by
  have m0 : ((62, [24], none) : aDe) ∈ ra_dep.getD 204 [] := List.mem_of_getElem? (i := 0) rfl
  have m1 : ((82, [], none) : aDe) ∈ ra_dep.getD 204 [] := List.mem_of_getElem? (i := 1) rfl
  obtain ⟨a0, a1, a2, a3, hl, hb⟩ := rC_riii_e hb
  rw [hl]
  obtain ⟨M, h1, h2⟩ := hb
  exact ⟨M, (rMg_st h m0 (by decide) m1 h1), h2⟩
theorem rs_205 {K : Nat → Nat} {n : Nat} {vs : List jv} {j : Nat} {σ σ' : Nat → jcell} (h : ∀ a, a < n → ∀ q ∈ ra_dep.getD 205 [], q.1 = K a → aSm vs q (σ a) (σ' a)) (hb : rb_205 K n (vs.take j) σ) : rb_205 K n (vs.take j) σ' := by
  have m0 : ((62, [24], none) : aDe) ∈ ra_dep.getD 205 [] := List.mem_of_getElem? (i := 0) rfl
  have m1 : ((82, [], none) : aDe) ∈ ra_dep.getD 205 [] := List.mem_of_getElem? (i := 1) rfl
  obtain ⟨a0, a1, a2, hl, hb⟩ := rC_rii_e hb
  rw [hl]
  obtain ⟨M, h1, h2⟩ := hb
  exact ⟨M, (rMg_st h m0 (by decide) m1 h1), h2⟩
theorem rs_206 {K : Nat → Nat} {n : Nat} {vs : List jv} {j : Nat} {σ σ' : Nat → jcell} (h : ∀ a, a < n → ∀ q ∈ ra_dep.getD 206 [], q.1 = K a → aSm vs q (σ a) (σ' a)) (hb : rb_206 K n (vs.take j) σ) : rb_206 K n (vs.take j) σ' := by
  have m0 : ((62, [24], none) : aDe) ∈ ra_dep.getD 206 [] := List.mem_of_getElem? (i := 0) rfl
  have m1 : ((82, [], none) : aDe) ∈ ra_dep.getD 206 [] := List.mem_of_getElem? (i := 1) rfl
  obtain ⟨a0, a1, a2, a3, hl, hb⟩ := rC_riii_e hb
  rw [hl]
  obtain ⟨M, h1, h2⟩ := hb
  exact ⟨M, (rMg_st h m0 (by decide) m1 h1), h2⟩
theorem rs_207 {K : Nat → Nat} {n : Nat} {vs : List jv} {j : Nat} {σ σ' : Nat → jcell} (h : ∀ a, a < n → ∀ q ∈ ra_dep.getD 207 [], q.1 = K a → aSm vs q (σ a) (σ' a)) (hb : rb_207 K n (vs.take j) σ) : rb_207 K n (vs.take j) σ' := by
  have m0 : ((62, [24], none) : aDe) ∈ ra_dep.getD 207 [] := List.mem_of_getElem? (i := 0) rfl
  have m1 : ((82, [], none) : aDe) ∈ ra_dep.getD 207 [] := List.mem_of_getElem? (i := 1) rfl
  obtain ⟨a0, a1, a2, a3, a4, hl, hb⟩ := rC_riiii_e hb
  rw [hl]
  obtain ⟨M, h1, h2⟩ := hb
  exact ⟨M, (rMg_st h m0 (by decide) m1 h1), h2⟩
theorem rs_208 {K : Nat → Nat} {n : Nat} {vs : List jv} {j : Nat} {σ σ' : Nat → jcell} (h : ∀ a, a < n → ∀ q ∈ ra_dep.getD 208 [], q.1 = K a → aSm vs q (σ a) (σ' a)) (hb : rb_208 K n (vs.take j) σ) : rb_208 K n (vs.take j) σ' := by
  have m0 : ((62, [24], none) : aDe) ∈ ra_dep.getD 208 [] := List.mem_of_getElem? (i := 0) rfl
  have m1 : ((82, [], none) : aDe) ∈ ra_dep.getD 208 [] := List.mem_of_getElem? (i := 1) rfl
  obtain ⟨a0, a1, a2, a3, a4, a5, hl, hb⟩ := rC_riiiii_e hb
  rw [hl]
  obtain ⟨M, h1, h2⟩ := hb
  exact ⟨M, (rMg_st h m0 (by decide) m1 h1), h2⟩
theorem rs_209 {K : Nat → Nat} {n : Nat} {vs : List jv} {j : Nat} {σ σ' : Nat → jcell} (h : ∀ a, a < n → ∀ q ∈ ra_dep.getD 209 [], q.1 = K a → aSm vs q (σ a) (σ' a)) (hb : rb_209 K n (vs.take j) σ) : rb_209 K n (vs.take j) σ' := by
  have m0 : ((62, [24], none) : aDe) ∈ ra_dep.getD 209 [] := List.mem_of_getElem? (i := 0) rfl
  have m1 : ((82, [], none) : aDe) ∈ ra_dep.getD 209 [] := List.mem_of_getElem? (i := 1) rfl
  obtain ⟨a0, a1, a2, a3, a4, a5, hl, hb⟩ := rC_riiiii_e hb
  rw [hl]
  obtain ⟨M, h1, h2⟩ := hb
  exact ⟨M, (rMg_st h m0 (by decide) m1 h1), h2⟩
theorem rs_210 {K : Nat → Nat} {n : Nat} {vs : List jv} {j : Nat} {σ σ' : Nat → jcell} (h : ∀ a, a < n → ∀ q ∈ ra_dep.getD 210 [], q.1 = K a → aSm vs q (σ a) (σ' a)) (hb : rb_210 K n (vs.take j) σ) : rb_210 K n (vs.take j) σ' := by
  have m0 : ((62, [24], none) : aDe) ∈ ra_dep.getD 210 [] := List.mem_of_getElem? (i := 0) rfl
  have m1 : ((82, [], none) : aDe) ∈ ra_dep.getD 210 [] := List.mem_of_getElem? (i := 1) rfl
  obtain ⟨a0, a1, a2, a3, a4, a5, hl, hb⟩ := rC_riiiii_e hb
  rw [hl]
  obtain ⟨M, h1, h2⟩ := hb
  exact ⟨M, (rMg_st h m0 (by decide) m1 h1), h2⟩
theorem rs_211 {K : Nat → Nat} {n : Nat} {vs : List jv} {j : Nat} {σ σ' : Nat → jcell} (h : ∀ a, a < n → ∀ q ∈ ra_dep.getD 211 [], q.1 = K a → aSm vs q (σ a) (σ' a)) (hb : rb_211 K n (vs.take j) σ) : rb_211 K n (vs.take j) σ' := by
  have m0 : ((62, [24], none) : aDe) ∈ ra_dep.getD 211 [] := List.mem_of_getElem? (i := 0) rfl
  have m1 : ((82, [], none) : aDe) ∈ ra_dep.getD 211 [] := List.mem_of_getElem? (i := 1) rfl
  obtain ⟨a0, a1, a2, a3, a4, hl, hb⟩ := rC_riiii_e hb
  rw [hl]
  obtain ⟨M, h1, h2⟩ := hb
  exact ⟨M, (rMg_st h m0 (by decide) m1 h1), h2⟩
theorem rs_212 {K : Nat → Nat} {n : Nat} {vs : List jv} {j : Nat} {σ σ' : Nat → jcell} (h : ∀ a, a < n → ∀ q ∈ ra_dep.getD 212 [], q.1 = K a → aSm vs q (σ a) (σ' a)) (hb : rb_212 K n (vs.take j) σ) : rb_212 K n (vs.take j) σ' := by
  have m0 : ((62, [24], none) : aDe) ∈ ra_dep.getD 212 [] := List.mem_of_getElem? (i := 0) rfl
  have m1 : ((82, [], none) : aDe) ∈ ra_dep.getD 212 [] := List.mem_of_getElem? (i := 1) rfl
  obtain ⟨a0, a1, a2, a3, hl, hb⟩ := rC_riii_e hb
  rw [hl]
  obtain ⟨M, h1, h2⟩ := hb
  exact ⟨M, (rMg_st h m0 (by decide) m1 h1), h2⟩
theorem rs_213 {K : Nat → Nat} {n : Nat} {vs : List jv} {j : Nat} {σ σ' : Nat → jcell} (h : ∀ a, a < n → ∀ q ∈ ra_dep.getD 213 [], q.1 = K a → aSm vs q (σ a) (σ' a)) (hb : rb_213 K n (vs.take j) σ) : rb_213 K n (vs.take j) σ' := by
  have m0 : ((62, [24], none) : aDe) ∈ ra_dep.getD 213 [] := List.mem_of_getElem? (i := 0) rfl
  have m1 : ((82, [], none) : aDe) ∈ ra_dep.getD 213 [] := List.mem_of_getElem? (i := 1) rfl
  obtain ⟨a0, a1, a2, a3, hl, hb⟩ := rC_riii_e hb
  rw [hl]
  obtain ⟨M, h1, h2⟩ := hb
  exact ⟨M, (rMg_st h m0 (by decide) m1 h1), h2⟩
theorem rs_214 {K : Nat → Nat} {n : Nat} {vs : List jv} {j : Nat} {σ σ' : Nat → jcell} (h : ∀ a, a < n → ∀ q ∈ ra_dep.getD 214 [], q.1 = K a → aSm vs q (σ a) (σ' a)) (hb : rb_214 K n (vs.take j) σ) : rb_214 K n (vs.take j) σ' := by
  have m0 : ((62, [24], none) : aDe) ∈ ra_dep.getD 214 [] := List.mem_of_getElem? (i := 0) rfl
  have m1 : ((82, [], none) : aDe) ∈ ra_dep.getD 214 [] := List.mem_of_getElem? (i := 1) rfl
  obtain ⟨a0, a1, a2, hl, hb⟩ := rC_rii_e hb
  rw [hl]
  obtain ⟨M, h1, h2⟩ := hb
  exact ⟨M, (rMg_st h m0 (by decide) m1 h1), h2⟩
theorem rs_215 {K : Nat → Nat} {n : Nat} {vs : List jv} {j : Nat} {σ σ' : Nat → jcell} (h : ∀ a, a < n → ∀ q ∈ ra_dep.getD 215 [], q.1 = K a → aSm vs q (σ a) (σ' a)) (hb : rb_215 K n (vs.take j) σ) : rb_215 K n (vs.take j) σ' := by
  have m0 : ((62, [24], none) : aDe) ∈ ra_dep.getD 215 [] := List.mem_of_getElem? (i := 0) rfl
  have m1 : ((82, [], none) : aDe) ∈ ra_dep.getD 215 [] := List.mem_of_getElem? (i := 1) rfl
  obtain ⟨a0, a1, a2, hl, hb⟩ := rC_rii_e hb
  rw [hl]
  obtain ⟨M, h1, h2⟩ := hb
  exact ⟨M, (rMg_st h m0 (by decide) m1 h1), h2⟩
theorem rs_216 {K : Nat → Nat} {n : Nat} {vs : List jv} {j : Nat} {σ σ' : Nat → jcell} (h : ∀ a, a < n → ∀ q ∈ ra_dep.getD 216 [], q.1 = K a → aSm vs q (σ a) (σ' a)) (hb : rb_216 K n (vs.take j) σ) : rb_216 K n (vs.take j) σ' := by
  exact hb
theorem rs_217 {K : Nat → Nat} {n : Nat} {vs : List jv} {j : Nat} {σ σ' : Nat → jcell} (h : ∀ a, a < n → ∀ q ∈ ra_dep.getD 217 [], q.1 = K a → aSm vs q (σ a) (σ' a)) (hb : rb_217 K n (vs.take j) σ) : rb_217 K n (vs.take j) σ' := by
  exact hb
theorem rs_218 {K : Nat → Nat} {n : Nat} {vs : List jv} {j : Nat} {σ σ' : Nat → jcell} (h : ∀ a, a < n → ∀ q ∈ ra_dep.getD 218 [], q.1 = K a → aSm vs q (σ a) (σ' a)) (hb : rb_218 K n (vs.take j) σ) : rb_218 K n (vs.take j) σ' := by
  exact hb
theorem rs_219 {K : Nat → Nat} {n : Nat} {vs : List jv} {j : Nat} {σ σ' : Nat → jcell} (h : ∀ a, a < n → ∀ q ∈ ra_dep.getD 219 [], q.1 = K a → aSm vs q (σ a) (σ' a)) (hb : rb_219 K n (vs.take j) σ) : rb_219 K n (vs.take j) σ' := by
  exact hb
theorem rs_220 {K : Nat → Nat} {n : Nat} {vs : List jv} {j : Nat} {σ σ' : Nat → jcell} (h : ∀ a, a < n → ∀ q ∈ ra_dep.getD 220 [], q.1 = K a → aSm vs q (σ a) (σ' a)) (hb : rb_220 K n (vs.take j) σ) : rb_220 K n (vs.take j) σ' := by
  have m0 : ((62, [29], none) : aDe) ∈ ra_dep.getD 220 [] := List.mem_of_getElem? (i := 0) rfl
  obtain ⟨a0, hl, hb⟩ := rC_r_e hb
  rw [hl]
  have hb : ∃ v : Int32, rOb K n σ a0 62 29 (rI v) ∧ 0 ≤ v.toInt ∧ v.toInt ≤ 1298 := hb
  have r9 : ∃ v : Int32, rOb K n σ' a0 62 29 (rI v) ∧ 0 ≤ v.toInt ∧ v.toInt ≤ 1298 := by
    obtain ⟨v, o1, h1, h2⟩ := hb
    exact ⟨v, (rOb_st h m0 (by decide) o1), h1, h2⟩
  exact r9
theorem rs_221 {K : Nat → Nat} {n : Nat} {vs : List jv} {j : Nat} {σ σ' : Nat → jcell} (h : ∀ a, a < n → ∀ q ∈ ra_dep.getD 221 [], q.1 = K a → aSm vs q (σ a) (σ' a)) (hb : rb_221 K n (vs.take j) σ) : rb_221 K n (vs.take j) σ' := by
  have m0 : ((62, [31], none) : aDe) ∈ ra_dep.getD 221 [] := List.mem_of_getElem? (i := 0) rfl
  have m1 : ((84, [], none) : aDe) ∈ ra_dep.getD 221 [] := List.mem_of_getElem? (i := 1) rfl
  obtain ⟨a0, hl, hb⟩ := rC_r_e hb
  rw [hl]
  have hb : ∃ g, rRo K n σ a0 62 31 84 5 g ∧ 0 ≤ (g 4).toInt ∧ (g 4).toInt ≤ 1298 := hb
  have r9 : ∃ g, rRo K n σ' a0 62 31 84 5 g ∧ 0 ≤ (g 4).toInt ∧ (g 4).toInt ≤ 1298 := by
    obtain ⟨g, r1, h1, h2⟩ := hb
    exact ⟨g, (rRo_st h m0 (by decide) m1 r1), h1, h2⟩
  exact r9
theorem rs_222 {K : Nat → Nat} {n : Nat} {vs : List jv} {j : Nat} {σ σ' : Nat → jcell} (h : ∀ a, a < n → ∀ q ∈ ra_dep.getD 222 [], q.1 = K a → aSm vs q (σ a) (σ' a)) (hb : rb_222 K n (vs.take j) σ) : rb_222 K n (vs.take j) σ' := by
  have m0 : ((62, [24], none) : aDe) ∈ ra_dep.getD 222 [] := List.mem_of_getElem? (i := 0) rfl
  have m1 : ((82, [], none) : aDe) ∈ ra_dep.getD 222 [] := List.mem_of_getElem? (i := 1) rfl
  obtain ⟨a0, a1, a2, a3, hl, hb⟩ := rC_riii_e hb
  rw [hl]
  obtain ⟨M, h1, h2⟩ := hb
  exact ⟨M, (rMg_st h m0 (by decide) m1 h1), h2⟩
theorem rs_223 {K : Nat → Nat} {n : Nat} {vs : List jv} {j : Nat} {σ σ' : Nat → jcell} (h : ∀ a, a < n → ∀ q ∈ ra_dep.getD 223 [], q.1 = K a → aSm vs q (σ a) (σ' a)) (hb : rb_223 K n (vs.take j) σ) : rb_223 K n (vs.take j) σ' := by
  have m0 : ((62, [24], none) : aDe) ∈ ra_dep.getD 223 [] := List.mem_of_getElem? (i := 0) rfl
  have m1 : ((82, [], none) : aDe) ∈ ra_dep.getD 223 [] := List.mem_of_getElem? (i := 1) rfl
  obtain ⟨a0, a1, a2, a3, hl, hb⟩ := rC_riii_e hb
  rw [hl]
  obtain ⟨M, h1, h2⟩ := hb
  exact ⟨M, (rMg_st h m0 (by decide) m1 h1), h2⟩
theorem rs_224 {K : Nat → Nat} {n : Nat} {vs : List jv} {j : Nat} {σ σ' : Nat → jcell} (h : ∀ a, a < n → ∀ q ∈ ra_dep.getD 224 [], q.1 = K a → aSm vs q (σ a) (σ' a)) (hb : rb_224 K n (vs.take j) σ) : rb_224 K n (vs.take j) σ' := by
  have m0 : ((62, [24], none) : aDe) ∈ ra_dep.getD 224 [] := List.mem_of_getElem? (i := 0) rfl
  have m1 : ((82, [], none) : aDe) ∈ ra_dep.getD 224 [] := List.mem_of_getElem? (i := 1) rfl
  obtain ⟨a0, a1, a2, a3, hl, hb⟩ := rC_riii_e hb
  rw [hl]
  obtain ⟨M, h1, h2⟩ := hb
  exact ⟨M, (rMg_st h m0 (by decide) m1 h1), h2⟩
theorem rs_225 {K : Nat → Nat} {n : Nat} {vs : List jv} {j : Nat} {σ σ' : Nat → jcell} (h : ∀ a, a < n → ∀ q ∈ ra_dep.getD 225 [], q.1 = K a → aSm vs q (σ a) (σ' a)) (hb : rb_225 K n (vs.take j) σ) : rb_225 K n (vs.take j) σ' := by
  exact hb
theorem rs_226 {K : Nat → Nat} {n : Nat} {vs : List jv} {j : Nat} {σ σ' : Nat → jcell} (h : ∀ a, a < n → ∀ q ∈ ra_dep.getD 226 [], q.1 = K a → aSm vs q (σ a) (σ' a)) (hb : rb_226 K n (vs.take j) σ) : rb_226 K n (vs.take j) σ' := by
  exact hb
theorem rs_227 {K : Nat → Nat} {n : Nat} {vs : List jv} {j : Nat} {σ σ' : Nat → jcell} (h : ∀ a, a < n → ∀ q ∈ ra_dep.getD 227 [], q.1 = K a → aSm vs q (σ a) (σ' a)) (hb : rb_227 K n (vs.take j) σ) : rb_227 K n (vs.take j) σ' := by
  exact hb
theorem rs_228 {K : Nat → Nat} {n : Nat} {vs : List jv} {j : Nat} {σ σ' : Nat → jcell} (h : ∀ a, a < n → ∀ q ∈ ra_dep.getD 228 [], q.1 = K a → aSm vs q (σ a) (σ' a)) (hb : rb_228 K n (vs.take j) σ) : rb_228 K n (vs.take j) σ' := by
  exact hb
theorem rs_230 {K : Nat → Nat} {n : Nat} {vs : List jv} {j : Nat} {σ σ' : Nat → jcell} (h : ∀ a, a < n → ∀ q ∈ ra_dep.getD 230 [], q.1 = K a → aSm vs q (σ a) (σ' a)) (hb : rb_230 K n (vs.take j) σ) : rb_230 K n (vs.take j) σ' := by
  have m0 : ((62, [24], none) : aDe) ∈ ra_dep.getD 230 [] := List.mem_of_getElem? (i := 0) rfl
  have m1 : ((82, [], none) : aDe) ∈ ra_dep.getD 230 [] := List.mem_of_getElem? (i := 1) rfl
  obtain ⟨a0, a1, hl, hb⟩ := rC_ri_e hb
  rw [hl]
  obtain ⟨M, h1, h2⟩ := hb
  exact ⟨M, (rMg_st h m0 (by decide) m1 h1), h2⟩
theorem rs_231 {K : Nat → Nat} {n : Nat} {vs : List jv} {j : Nat} {σ σ' : Nat → jcell} (h : ∀ a, a < n → ∀ q ∈ ra_dep.getD 231 [], q.1 = K a → aSm vs q (σ a) (σ' a)) (hb : rb_231 K n (vs.take j) σ) : rb_231 K n (vs.take j) σ' := by
  exact hb
theorem rs_232 {K : Nat → Nat} {n : Nat} {vs : List jv} {j : Nat} {σ σ' : Nat → jcell} (h : ∀ a, a < n → ∀ q ∈ ra_dep.getD 232 [], q.1 = K a → aSm vs q (σ a) (σ' a)) (hb : rb_232 K n (vs.take j) σ) : rb_232 K n (vs.take j) σ' := by
  exact hb
theorem rs_233 {K : Nat → Nat} {n : Nat} {vs : List jv} {j : Nat} {σ σ' : Nat → jcell} (h : ∀ a, a < n → ∀ q ∈ ra_dep.getD 233 [], q.1 = K a → aSm vs q (σ a) (σ' a)) (hb : rb_233 K n (vs.take j) σ) : rb_233 K n (vs.take j) σ' := by
  exact hb
theorem rs_234 {K : Nat → Nat} {n : Nat} {vs : List jv} {j : Nat} {σ σ' : Nat → jcell} (h : ∀ a, a < n → ∀ q ∈ ra_dep.getD 234 [], q.1 = K a → aSm vs q (σ a) (σ' a)) (hb : rb_234 K n (vs.take j) σ) : rb_234 K n (vs.take j) σ' := by
  exact hb
theorem rs_235 {K : Nat → Nat} {n : Nat} {vs : List jv} {j : Nat} {σ σ' : Nat → jcell} (h : ∀ a, a < n → ∀ q ∈ ra_dep.getD 235 [], q.1 = K a → aSm vs q (σ a) (σ' a)) (hb : rb_235 K n (vs.take j) σ) : rb_235 K n (vs.take j) σ' := by
  exact hb
theorem rs_236 {K : Nat → Nat} {n : Nat} {vs : List jv} {j : Nat} {σ σ' : Nat → jcell} (h : ∀ a, a < n → ∀ q ∈ ra_dep.getD 236 [], q.1 = K a → aSm vs q (σ a) (σ' a)) (hb : rb_236 K n (vs.take j) σ) : rb_236 K n (vs.take j) σ' := by
  exact hb
theorem rs_400 {K : Nat → Nat} {n : Nat} {p : rP} {vs : List jv} {j : Nat} {σ σ' : Nat → jcell} (h : ∀ a, a < n → ∀ q ∈ ra_dep.getD 400 [], q.1 = K a → aSm vs q (σ a) (σ' a)) (hb : rb_400 K n p (vs.take j) σ) : rb_400 K n p (vs.take j) σ' := by
  have m0 : ((62, [24, 25, 26, 27], none) : aDe) ∈ ra_dep.getD 400 [] := List.mem_of_getElem? (i := 0) rfl
  have m1 : ((82, [], none) : aDe) ∈ ra_dep.getD 400 [] := List.mem_of_getElem? (i := 1) rfl
  obtain ⟨a0, hl, hb⟩ := rC_r_e hb
  rw [hl]
  have hb : p.2 = none ∧ rTX K n σ a0 p.1 := hb
  have r9 : p.2 = none ∧ rTX K n σ' a0 p.1 := by
    obtain ⟨hp, h1, ⟨v1, o1, e1⟩, ⟨v2, o2, e2⟩, ⟨v3, o3, e3⟩⟩ := hb
    exact ⟨hp, (rMg_st h m0 (by decide) m1 h1), ⟨v1, (rOb_st h m0 (by decide) o1), e1⟩, ⟨v2, (rOb_st h m0 (by decide) o2), e2⟩, ⟨v3, (rOb_st h m0 (by decide) o3), e3⟩⟩
  exact r9
theorem rs_401 {K : Nat → Nat} {n : Nat} {p : rP} {vs : List jv} {j : Nat} {σ σ' : Nat → jcell} (h : ∀ a, a < n → ∀ q ∈ ra_dep.getD 401 [], q.1 = K a → aSm vs q (σ a) (σ' a)) (hb : rb_401 K n p (vs.take j) σ) : rb_401 K n p (vs.take j) σ' := by
  have m0 : ((62, [30, 31], none) : aDe) ∈ ra_dep.getD 401 [] := List.mem_of_getElem? (i := 0) rfl
  have m1 : ((83, [], none) : aDe) ∈ ra_dep.getD 401 [] := List.mem_of_getElem? (i := 1) rfl
  have m2 : ((84, [], none) : aDe) ∈ ra_dep.getD 401 [] := List.mem_of_getElem? (i := 2) rfl
  obtain ⟨a0, hl, hb⟩ := rC_r_e hb
  rw [hl]
  have hb : p.2 = none ∧ rTKP K n σ a0 p.1 := hb
  have r9 : p.2 = none ∧ rTKP K n σ' a0 p.1 := by
    obtain ⟨hp, hz, ⟨g, r1, k1⟩, g2, r2, k2⟩ := hb
    exact ⟨hp, hz, ⟨g, (rRo_st h m0 (by decide) m1 r1), k1⟩, g2, (rRo_st h m0 (by decide) m2 r2), k2⟩
  exact r9
theorem rs_402 {K : Nat → Nat} {n : Nat} {p : rP} {vs : List jv} {j : Nat} {σ σ' : Nat → jcell} (h : ∀ a, a < n → ∀ q ∈ ra_dep.getD 402 [], q.1 = K a → aSm vs q (σ a) (σ' a)) (hb : rb_402 K n p (vs.take j) σ) : rb_402 K n p (vs.take j) σ' := by
  have m0 : ((62, [30], none) : aDe) ∈ ra_dep.getD 402 [] := List.mem_of_getElem? (i := 0) rfl
  have m1 : ((83, [], some ([(1, 1)], 0)) : aDe) ∈ ra_dep.getD 402 [] := List.mem_of_getElem? (i := 1) rfl
  obtain ⟨a0, a1, hl, hb⟩ := rC_ri_e hb
  rw [hl]
  have hb : rKI K n σ a0 30 83 a1.toInt p.1.1 := hb
  have r9 : rKI K n σ' a0 30 83 a1.toInt p.1.1 := by
    obtain ⟨g, r1, kk⟩ := hb
    obtain ⟨n1g, n1, n1e⟩ := rRo_sb h m0 (by decide) m1 (b := (1 * a1.toInt + 0)) (fun x hx => rVa1 (x := a1) hx (rTak (j := j) (by rw [hl]; rfl))) r1
    exact ⟨n1g, n1, fun j j0 j1 j2 => by rw [n1e _ (by omega)]; exact kk j j0 j1 j2⟩
  exact r9
theorem rs_403 {K : Nat → Nat} {n : Nat} {p : rP} {vs : List jv} {j : Nat} {σ σ' : Nat → jcell} (h : ∀ a, a < n → ∀ q ∈ ra_dep.getD 403 [], q.1 = K a → aSm vs q (σ a) (σ' a)) (hb : rb_403 K n p (vs.take j) σ) : rb_403 K n p (vs.take j) σ' := by
  have m0 : ((62, [30], none) : aDe) ∈ ra_dep.getD 403 [] := List.mem_of_getElem? (i := 0) rfl
  have m1 : ((83, [], some ([(1, 1)], 1)) : aDe) ∈ ra_dep.getD 403 [] := List.mem_of_getElem? (i := 1) rfl
  obtain ⟨a0, a1, hl, hb⟩ := rC_ri_e hb
  rw [hl]
  have hb : rKI K n σ a0 30 83 (a1.toInt + 1) p.1.1 := hb
  have r9 : rKI K n σ' a0 30 83 (a1.toInt + 1) p.1.1 := by
    obtain ⟨g, r1, kk⟩ := hb
    obtain ⟨n1g, n1, n1e⟩ := rRo_sb h m0 (by decide) m1 (b := (1 * a1.toInt + 1)) (fun x hx => rVa1 (x := a1) hx (rTak (j := j) (by rw [hl]; rfl))) r1
    exact ⟨n1g, n1, fun j j0 j1 j2 => by rw [n1e _ (by omega)]; exact kk j j0 j1 j2⟩
  exact r9
theorem rs_404 {K : Nat → Nat} {n : Nat} {p : rP} {vs : List jv} {j : Nat} {σ σ' : Nat → jcell} (h : ∀ a, a < n → ∀ q ∈ ra_dep.getD 404 [], q.1 = K a → aSm vs q (σ a) (σ' a)) (hb : rb_404 K n p (vs.take j) σ) : rb_404 K n p (vs.take j) σ' := by
  have m0 : ((62, [24], none) : aDe) ∈ ra_dep.getD 404 [] := List.mem_of_getElem? (i := 0) rfl
  have m1 : ((82, [], some ([(1, 1)], 0)) : aDe) ∈ ra_dep.getD 404 [] := List.mem_of_getElem? (i := 1) rfl
  obtain ⟨a0, a1, hl, hb⟩ := rC_ri_e hb
  rw [hl]
  have hb : rKI K n σ a0 24 82 a1.toInt p.1.1 := hb
  have r9 : rKI K n σ' a0 24 82 a1.toInt p.1.1 := by
    obtain ⟨g, r1, kk⟩ := hb
    obtain ⟨n1g, n1, n1e⟩ := rRo_sb h m0 (by decide) m1 (b := (1 * a1.toInt + 0)) (fun x hx => rVa1 (x := a1) hx (rTak (j := j) (by rw [hl]; rfl))) r1
    exact ⟨n1g, n1, fun j j0 j1 j2 => by rw [n1e _ (by omega)]; exact kk j j0 j1 j2⟩
  exact r9
theorem rs_405 {K : Nat → Nat} {n : Nat} {p : rP} {vs : List jv} {j : Nat} {σ σ' : Nat → jcell} (h : ∀ a, a < n → ∀ q ∈ ra_dep.getD 405 [], q.1 = K a → aSm vs q (σ a) (σ' a)) (hb : rb_405 K n p (vs.take j) σ) : rb_405 K n p (vs.take j) σ' := by
  have m0 : ((62, [24], none) : aDe) ∈ ra_dep.getD 405 [] := List.mem_of_getElem? (i := 0) rfl
  have m1 : ((82, [], some ([(1, 1)], 1)) : aDe) ∈ ra_dep.getD 405 [] := List.mem_of_getElem? (i := 1) rfl
  obtain ⟨a0, a1, hl, hb⟩ := rC_ri_e hb
  rw [hl]
  have hb : rKI K n σ a0 24 82 (a1.toInt + 1) p.1.1 := hb
  have r9 : rKI K n σ' a0 24 82 (a1.toInt + 1) p.1.1 := by
    obtain ⟨g, r1, kk⟩ := hb
    obtain ⟨n1g, n1, n1e⟩ := rRo_sb h m0 (by decide) m1 (b := (1 * a1.toInt + 1)) (fun x hx => rVa1 (x := a1) hx (rTak (j := j) (by rw [hl]; rfl))) r1
    exact ⟨n1g, n1, fun j j0 j1 j2 => by rw [n1e _ (by omega)]; exact kk j j0 j1 j2⟩
  exact r9
theorem rs_406 {K : Nat → Nat} {n : Nat} {p : rP} {vs : List jv} {j : Nat} {σ σ' : Nat → jcell} (h : ∀ a, a < n → ∀ q ∈ ra_dep.getD 406 [], q.1 = K a → aSm vs q (σ a) (σ' a)) (hb : rb_406 K n p (vs.take j) σ) : rb_406 K n p (vs.take j) σ' := by
  have m0 : ((62, [24], none) : aDe) ∈ ra_dep.getD 406 [] := List.mem_of_getElem? (i := 0) rfl
  have m1 : ((82, [], none) : aDe) ∈ ra_dep.getD 406 [] := List.mem_of_getElem? (i := 1) rfl
  obtain ⟨a0, a1, hl, hb⟩ := rC_ri_e hb
  rw [hl]
  obtain ⟨M, h1, h2⟩ := hb
  exact ⟨M, (rMg_st h m0 (by decide) m1 h1), h2⟩
theorem rs_407 {K : Nat → Nat} {n : Nat} {p : rP} {vs : List jv} {j : Nat} {σ σ' : Nat → jcell} (h : ∀ a, a < n → ∀ q ∈ ra_dep.getD 407 [], q.1 = K a → aSm vs q (σ a) (σ' a)) (hb : rb_407 K n p (vs.take j) σ) : rb_407 K n p (vs.take j) σ' := by
  have m0 : ((62, [24], none) : aDe) ∈ ra_dep.getD 407 [] := List.mem_of_getElem? (i := 0) rfl
  have m1 : ((82, [], none) : aDe) ∈ ra_dep.getD 407 [] := List.mem_of_getElem? (i := 1) rfl
  obtain ⟨a0, a1, hl, hb⟩ := rC_ri_e hb
  rw [hl]
  obtain ⟨M, h1, h2⟩ := hb
  exact ⟨M, (rMg_st h m0 (by decide) m1 h1), h2⟩
theorem rs_408 {K : Nat → Nat} {n : Nat} {p : rP} {vs : List jv} {j : Nat} {σ σ' : Nat → jcell} (h : ∀ a, a < n → ∀ q ∈ ra_dep.getD 408 [], q.1 = K a → aSm vs q (σ a) (σ' a)) (hb : rb_408 K n p (vs.take j) σ) : rb_408 K n p (vs.take j) σ' := by
  have m0 : ((62, [24], none) : aDe) ∈ ra_dep.getD 408 [] := List.mem_of_getElem? (i := 0) rfl
  have m1 : ((82, [], none) : aDe) ∈ ra_dep.getD 408 [] := List.mem_of_getElem? (i := 1) rfl
  obtain ⟨a0, a1, hl, hb⟩ := rC_ri_e hb
  rw [hl]
  obtain ⟨M, h1, h2⟩ := hb
  exact ⟨M, (rMg_st h m0 (by decide) m1 h1), h2⟩
theorem rs_409 {K : Nat → Nat} {n : Nat} {p : rP} {vs : List jv} {j : Nat} {σ σ' : Nat → jcell} (h : ∀ a, a < n → ∀ q ∈ ra_dep.getD 409 [], q.1 = K a → aSm vs q (σ a) (σ' a)) (hb : rb_409 K n p (vs.take j) σ) : rb_409 K n p (vs.take j) σ' := by
  have m0 : ((62, [24], none) : aDe) ∈ ra_dep.getD 409 [] := List.mem_of_getElem? (i := 0) rfl
  have m1 : ((82, [], none) : aDe) ∈ ra_dep.getD 409 [] := List.mem_of_getElem? (i := 1) rfl
  obtain ⟨a0, a1, hl, hb⟩ := rC_ri_e hb
  rw [hl]
  obtain ⟨M, h1, h2⟩ := hb
  exact ⟨M, (rMg_st h m0 (by decide) m1 h1), h2⟩
theorem rs_410 {K : Nat → Nat} {n : Nat} {p : rP} {vs : List jv} {j : Nat} {σ σ' : Nat → jcell} (h : ∀ a, a < n → ∀ q ∈ ra_dep.getD 410 [], q.1 = K a → aSm vs q (σ a) (σ' a)) (hb : rb_410 K n p (vs.take j) σ) : rb_410 K n p (vs.take j) σ' := by
  have m0 : ((62, [24], none) : aDe) ∈ ra_dep.getD 410 [] := List.mem_of_getElem? (i := 0) rfl
  have m1 : ((82, [], none) : aDe) ∈ ra_dep.getD 410 [] := List.mem_of_getElem? (i := 1) rfl
  obtain ⟨a0, a1, hl, hb⟩ := rC_ri_e hb
  rw [hl]
  obtain ⟨M, h1, h2⟩ := hb
  exact ⟨M, (rMg_st h m0 (by decide) m1 h1), h2⟩
theorem rs_411 {K : Nat → Nat} {n : Nat} {p : rP} {vs : List jv} {j : Nat} {σ σ' : Nat → jcell} (h : ∀ a, a < n → ∀ q ∈ ra_dep.getD 411 [], q.1 = K a → aSm vs q (σ a) (σ' a)) (hb : rb_411 K n p (vs.take j) σ) : rb_411 K n p (vs.take j) σ' := by
  have m0 : ((62, [24, 25, 26, 27], none) : aDe) ∈ ra_dep.getD 411 [] := List.mem_of_getElem? (i := 0) rfl
  have m1 : ((82, [], none) : aDe) ∈ ra_dep.getD 411 [] := List.mem_of_getElem? (i := 1) rfl
  obtain ⟨a0, a1, hl, hb⟩ := rC_ri_e hb
  rw [hl]
  have hb : p.2 = none ∧ rTX K n σ a0 (rVk p.1 a1.toInt) := hb
  have r9 : p.2 = none ∧ rTX K n σ' a0 (rVk p.1 a1.toInt) := by
    obtain ⟨hp, h1, ⟨v1, o1, e1⟩, ⟨v2, o2, e2⟩, ⟨v3, o3, e3⟩⟩ := hb
    exact ⟨hp, (rMg_st h m0 (by decide) m1 h1), ⟨v1, (rOb_st h m0 (by decide) o1), e1⟩, ⟨v2, (rOb_st h m0 (by decide) o2), e2⟩, ⟨v3, (rOb_st h m0 (by decide) o3), e3⟩⟩
  exact r9
theorem rs_412 {K : Nat → Nat} {n : Nat} {p : rP} {vs : List jv} {j : Nat} {σ σ' : Nat → jcell} (h : ∀ a, a < n → ∀ q ∈ ra_dep.getD 412 [], q.1 = K a → aSm vs q (σ a) (σ' a)) (hb : rb_412 K n p (vs.take j) σ) : rb_412 K n p (vs.take j) σ' := by
  exact hb
theorem rs_413 {K : Nat → Nat} {n : Nat} {p : rP} {vs : List jv} {j : Nat} {σ σ' : Nat → jcell} (h : ∀ a, a < n → ∀ q ∈ ra_dep.getD 413 [], q.1 = K a → aSm vs q (σ a) (σ' a)) (hb : rb_413 K n p (vs.take j) σ) : rb_413 K n p (vs.take j) σ' := by
  exact hb
theorem rs_414 {K : Nat → Nat} {n : Nat} {p : rP} {vs : List jv} {j : Nat} {σ σ' : Nat → jcell} (h : ∀ a, a < n → ∀ q ∈ ra_dep.getD 414 [], q.1 = K a → aSm vs q (σ a) (σ' a)) (hb : rb_414 K n p (vs.take j) σ) : rb_414 K n p (vs.take j) σ' := by
  exact hb
theorem rs_415 {K : Nat → Nat} {n : Nat} {p : rP} {vs : List jv} {j : Nat} {σ σ' : Nat → jcell} (h : ∀ a, a < n → ∀ q ∈ ra_dep.getD 415 [], q.1 = K a → aSm vs q (σ a) (σ' a)) (hb : rb_415 K n p (vs.take j) σ) : rb_415 K n p (vs.take j) σ' := by
  exact hb
theorem rs_416 {K : Nat → Nat} {n : Nat} {p : rP} {vs : List jv} {j : Nat} {σ σ' : Nat → jcell} (h : ∀ a, a < n → ∀ q ∈ ra_dep.getD 416 [], q.1 = K a → aSm vs q (σ a) (σ' a)) (hb : rb_416 K n p (vs.take j) σ) : rb_416 K n p (vs.take j) σ' := by
  exact hb
theorem rs_417 {K : Nat → Nat} {n : Nat} {p : rP} {vs : List jv} {j : Nat} {σ σ' : Nat → jcell} (h : ∀ a, a < n → ∀ q ∈ ra_dep.getD 417 [], q.1 = K a → aSm vs q (σ a) (σ' a)) (hb : rb_417 K n p (vs.take j) σ) : rb_417 K n p (vs.take j) σ' := by
  exact hb
theorem rs_418 {K : Nat → Nat} {n : Nat} {p : rP} {vs : List jv} {j : Nat} {σ σ' : Nat → jcell} (h : ∀ a, a < n → ∀ q ∈ ra_dep.getD 418 [], q.1 = K a → aSm vs q (σ a) (σ' a)) (hb : rb_418 K n p (vs.take j) σ) : rb_418 K n p (vs.take j) σ' := by
  exact hb
theorem rs_419 {K : Nat → Nat} {n : Nat} {p : rP} {vs : List jv} {j : Nat} {σ σ' : Nat → jcell} (h : ∀ a, a < n → ∀ q ∈ ra_dep.getD 419 [], q.1 = K a → aSm vs q (σ a) (σ' a)) (hb : rb_419 K n p (vs.take j) σ) : rb_419 K n p (vs.take j) σ' := by
  exact hb
theorem rs_420 {K : Nat → Nat} {n : Nat} {p : rP} {vs : List jv} {j : Nat} {σ σ' : Nat → jcell} (h : ∀ a, a < n → ∀ q ∈ ra_dep.getD 420 [], q.1 = K a → aSm vs q (σ a) (σ' a)) (hb : rb_420 K n p (vs.take j) σ) : rb_420 K n p (vs.take j) σ' := by
  have m0 : ((62, [31], none) : aDe) ∈ ra_dep.getD 420 [] := List.mem_of_getElem? (i := 0) rfl
  have m1 : ((84, [], some ([], 1)) : aDe) ∈ ra_dep.getD 420 [] := List.mem_of_getElem? (i := 1) rfl
  obtain ⟨a0, hl, hb⟩ := rC_r_e hb
  rw [hl]
  have hb : p.2 = none ∧ rZ p.1.1 ∧ ∃ g, rRo K n σ a0 62 31 84 5 g ∧ (g 0).toInt = p.1.2.1 := hb
  have r9 : p.2 = none ∧ rZ p.1.1 ∧ ∃ g, rRo K n σ' a0 62 31 84 5 g ∧ (g 0).toInt = p.1.2.1 := by
    obtain ⟨hp, hz, g, r1, e1⟩ := hb
    obtain ⟨n1g, n1, n1e⟩ := rRo_sb h m0 (by decide) m1 (b := 1) (fun x hx => rVa0 hx) r1
    exact ⟨hp, hz, n1g, n1, by rw [n1e _ (by omega)]; exact e1⟩
  exact r9
theorem rs_421 {K : Nat → Nat} {n : Nat} {p : rP} {vs : List jv} {j : Nat} {σ σ' : Nat → jcell} (h : ∀ a, a < n → ∀ q ∈ ra_dep.getD 421 [], q.1 = K a → aSm vs q (σ a) (σ' a)) (hb : rb_421 K n p (vs.take j) σ) : rb_421 K n p (vs.take j) σ' := by
  have m0 : ((62, [31], none) : aDe) ∈ ra_dep.getD 421 [] := List.mem_of_getElem? (i := 0) rfl
  have m1 : ((84, [], some ([], 2)) : aDe) ∈ ra_dep.getD 421 [] := List.mem_of_getElem? (i := 1) rfl
  obtain ⟨a0, hl, hb⟩ := rC_r_e hb
  rw [hl]
  have hb : p.2 = none ∧ rZ p.1.1 ∧ ∃ g, rRo K n σ a0 62 31 84 5 g ∧ (g 1).toInt = p.1.2.2.1 := hb
  have r9 : p.2 = none ∧ rZ p.1.1 ∧ ∃ g, rRo K n σ' a0 62 31 84 5 g ∧ (g 1).toInt = p.1.2.2.1 := by
    obtain ⟨hp, hz, g, r1, e1⟩ := hb
    obtain ⟨n1g, n1, n1e⟩ := rRo_sb h m0 (by decide) m1 (b := 2) (fun x hx => rVa0 hx) r1
    exact ⟨hp, hz, n1g, n1, by rw [n1e _ (by omega)]; exact e1⟩
  exact r9
theorem rs_422 {K : Nat → Nat} {n : Nat} {p : rP} {vs : List jv} {j : Nat} {σ σ' : Nat → jcell} (h : ∀ a, a < n → ∀ q ∈ ra_dep.getD 422 [], q.1 = K a → aSm vs q (σ a) (σ' a)) (hb : rb_422 K n p (vs.take j) σ) : rb_422 K n p (vs.take j) σ' := by
  have m0 : ((62, [31], none) : aDe) ∈ ra_dep.getD 422 [] := List.mem_of_getElem? (i := 0) rfl
  have m1 : ((84, [], some ([], 3)) : aDe) ∈ ra_dep.getD 422 [] := List.mem_of_getElem? (i := 1) rfl
  obtain ⟨a0, hl, hb⟩ := rC_r_e hb
  rw [hl]
  have hb : p.2 = none ∧ rZ p.1.1 ∧ ∃ g, rRo K n σ a0 62 31 84 5 g ∧ (g 2).toInt = p.1.2.2.2 := hb
  have r9 : p.2 = none ∧ rZ p.1.1 ∧ ∃ g, rRo K n σ' a0 62 31 84 5 g ∧ (g 2).toInt = p.1.2.2.2 := by
    obtain ⟨hp, hz, g, r1, e1⟩ := hb
    obtain ⟨n1g, n1, n1e⟩ := rRo_sb h m0 (by decide) m1 (b := 3) (fun x hx => rVa0 hx) r1
    exact ⟨hp, hz, n1g, n1, by rw [n1e _ (by omega)]; exact e1⟩
  exact r9
theorem rs_423 {K : Nat → Nat} {n : Nat} {p : rP} {vs : List jv} {j : Nat} {σ σ' : Nat → jcell} (h : ∀ a, a < n → ∀ q ∈ ra_dep.getD 423 [], q.1 = K a → aSm vs q (σ a) (σ' a)) (hb : rb_423 K n p (vs.take j) σ) : rb_423 K n p (vs.take j) σ' := by
  exact hb
theorem rs_424 {K : Nat → Nat} {n : Nat} {p : rP} {vs : List jv} {j : Nat} {σ σ' : Nat → jcell} (h : ∀ a, a < n → ∀ q ∈ ra_dep.getD 424 [], q.1 = K a → aSm vs q (σ a) (σ' a)) (hb : rb_424 K n p (vs.take j) σ) : rb_424 K n p (vs.take j) σ' := by
  exact hb
theorem rs_425 {K : Nat → Nat} {n : Nat} {p : rP} {vs : List jv} {j : Nat} {σ σ' : Nat → jcell} (h : ∀ a, a < n → ∀ q ∈ ra_dep.getD 425 [], q.1 = K a → aSm vs q (σ a) (σ' a)) (hb : rb_425 K n p (vs.take j) σ) : rb_425 K n p (vs.take j) σ' := by
  exact hb
theorem rs_426 {K : Nat → Nat} {n : Nat} {p : rP} {vs : List jv} {j : Nat} {σ σ' : Nat → jcell} (h : ∀ a, a < n → ∀ q ∈ ra_dep.getD 426 [], q.1 = K a → aSm vs q (σ a) (σ' a)) (hb : rb_426 K n p (vs.take j) σ) : rb_426 K n p (vs.take j) σ' := by
  exact hb
theorem rs_427 {K : Nat → Nat} {n : Nat} {p : rP} {vs : List jv} {j : Nat} {σ σ' : Nat → jcell} (h : ∀ a, a < n → ∀ q ∈ ra_dep.getD 427 [], q.1 = K a → aSm vs q (σ a) (σ' a)) (hb : rb_427 K n p (vs.take j) σ) : rb_427 K n p (vs.take j) σ' := by
  exact hb
theorem rs_428 {K : Nat → Nat} {n : Nat} {p : rP} {vs : List jv} {j : Nat} {σ σ' : Nat → jcell} (h : ∀ a, a < n → ∀ q ∈ ra_dep.getD 428 [], q.1 = K a → aSm vs q (σ a) (σ' a)) (hb : rb_428 K n p (vs.take j) σ) : rb_428 K n p (vs.take j) σ' := by
  exact hb
theorem rs_429 {K : Nat → Nat} {n : Nat} {p : rP} {vs : List jv} {j : Nat} {σ σ' : Nat → jcell} (h : ∀ a, a < n → ∀ q ∈ ra_dep.getD 429 [], q.1 = K a → aSm vs q (σ a) (σ' a)) (hb : rb_429 K n p (vs.take j) σ) : rb_429 K n p (vs.take j) σ' := by
  exact hb
theorem rs_430 {K : Nat → Nat} {n : Nat} {p : rP} {vs : List jv} {j : Nat} {σ σ' : Nat → jcell} (h : ∀ a, a < n → ∀ q ∈ ra_dep.getD 430 [], q.1 = K a → aSm vs q (σ a) (σ' a)) (hb : rb_430 K n p (vs.take j) σ) : rb_430 K n p (vs.take j) σ' := by
  exact hb
theorem rs_431 {K : Nat → Nat} {n : Nat} {p : rP} {vs : List jv} {j : Nat} {σ σ' : Nat → jcell} (h : ∀ a, a < n → ∀ q ∈ ra_dep.getD 431 [], q.1 = K a → aSm vs q (σ a) (σ' a)) (hb : rb_431 K n p (vs.take j) σ) : rb_431 K n p (vs.take j) σ' := by
  exact hb
theorem rs_432 {K : Nat → Nat} {n : Nat} {p : rP} {vs : List jv} {j : Nat} {σ σ' : Nat → jcell} (h : ∀ a, a < n → ∀ q ∈ ra_dep.getD 432 [], q.1 = K a → aSm vs q (σ a) (σ' a)) (hb : rb_432 K n p (vs.take j) σ) : rb_432 K n p (vs.take j) σ' := by
  exact hb
theorem rs_433 {K : Nat → Nat} {n : Nat} {p : rP} {vs : List jv} {j : Nat} {σ σ' : Nat → jcell} (h : ∀ a, a < n → ∀ q ∈ ra_dep.getD 433 [], q.1 = K a → aSm vs q (σ a) (σ' a)) (hb : rb_433 K n p (vs.take j) σ) : rb_433 K n p (vs.take j) σ' := by
  exact hb
theorem rs_434 {K : Nat → Nat} {n : Nat} {p : rP} {vs : List jv} {j : Nat} {σ σ' : Nat → jcell} (h : ∀ a, a < n → ∀ q ∈ ra_dep.getD 434 [], q.1 = K a → aSm vs q (σ a) (σ' a)) (hb : rb_434 K n p (vs.take j) σ) : rb_434 K n p (vs.take j) σ' := by
  exact hb
theorem rs_435 {K : Nat → Nat} {n : Nat} {p : rP} {vs : List jv} {j : Nat} {σ σ' : Nat → jcell} (h : ∀ a, a < n → ∀ q ∈ ra_dep.getD 435 [], q.1 = K a → aSm vs q (σ a) (σ' a)) (hb : rb_435 K n p (vs.take j) σ) : rb_435 K n p (vs.take j) σ' := by
  exact hb
theorem rs_436 {K : Nat → Nat} {n : Nat} {p : rP} {vs : List jv} {j : Nat} {σ σ' : Nat → jcell} (h : ∀ a, a < n → ∀ q ∈ ra_dep.getD 436 [], q.1 = K a → aSm vs q (σ a) (σ' a)) (hb : rb_436 K n p (vs.take j) σ) : rb_436 K n p (vs.take j) σ' := by
  exact hb
theorem rs_437 {K : Nat → Nat} {n : Nat} {p : rP} {vs : List jv} {j : Nat} {σ σ' : Nat → jcell} (h : ∀ a, a < n → ∀ q ∈ ra_dep.getD 437 [], q.1 = K a → aSm vs q (σ a) (σ' a)) (hb : rb_437 K n p (vs.take j) σ) : rb_437 K n p (vs.take j) σ' := by
  exact hb
theorem rs_438 {K : Nat → Nat} {n : Nat} {p : rP} {vs : List jv} {j : Nat} {σ σ' : Nat → jcell} (h : ∀ a, a < n → ∀ q ∈ ra_dep.getD 438 [], q.1 = K a → aSm vs q (σ a) (σ' a)) (hb : rb_438 K n p (vs.take j) σ) : rb_438 K n p (vs.take j) σ' := by
  have m0 : ((62, [32], none) : aDe) ∈ ra_dep.getD 438 [] := List.mem_of_getElem? (i := 0) rfl
  have m1 : ((85, [], some ([(1, 1)], 0)) : aDe) ∈ ra_dep.getD 438 [] := List.mem_of_getElem? (i := 1) rfl
  obtain ⟨a0, a1, hl, hb⟩ := rC_ri_e hb
  rw [hl]
  have hb : a1.toInt ≤ 2048 ∧ rTL K n σ a0 a1.toInt p.1 := hb
  have r9 : a1.toInt ≤ 2048 ∧ rTL K n σ' a0 a1.toInt p.1 := by
    obtain ⟨hc, g, r1, kk⟩ := hb
    obtain ⟨n1g, n1, n1e⟩ := rRo_sb h m0 (by decide) m1 (b := (1 * a1.toInt + 0)) (fun x hx => rVa1 (x := a1) hx (rTak (j := j) (by rw [hl]; rfl))) r1
    exact ⟨hc, n1g, n1, fun j j0 j1 => by rw [n1e _ (by omega)]; exact kk j j0 j1⟩
  exact r9
theorem rs_439 {K : Nat → Nat} {n : Nat} {p : rP} {vs : List jv} {j : Nat} {σ σ' : Nat → jcell} (h : ∀ a, a < n → ∀ q ∈ ra_dep.getD 439 [], q.1 = K a → aSm vs q (σ a) (σ' a)) (hb : rb_439 K n p (vs.take j) σ) : rb_439 K n p (vs.take j) σ' := by
  have m0 : ((62, [32], none) : aDe) ∈ ra_dep.getD 439 [] := List.mem_of_getElem? (i := 0) rfl
  have m1 : ((85, [], some ([(1, 1)], 1)) : aDe) ∈ ra_dep.getD 439 [] := List.mem_of_getElem? (i := 1) rfl
  obtain ⟨a0, a1, hl, hb⟩ := rC_ri_e hb
  rw [hl]
  have hb : a1.toInt ≤ 2048 ∧ rTL K n σ a0 (a1.toInt + 1) p.1 := hb
  have r9 : a1.toInt ≤ 2048 ∧ rTL K n σ' a0 (a1.toInt + 1) p.1 := by
    obtain ⟨hc, g, r1, kk⟩ := hb
    obtain ⟨n1g, n1, n1e⟩ := rRo_sb h m0 (by decide) m1 (b := (1 * a1.toInt + 1)) (fun x hx => rVa1 (x := a1) hx (rTak (j := j) (by rw [hl]; rfl))) r1
    exact ⟨hc, n1g, n1, fun j j0 j1 => by rw [n1e _ (by omega)]; exact kk j j0 j1⟩
  exact r9
theorem rs_440 {K : Nat → Nat} {n : Nat} {p : rP} {vs : List jv} {j : Nat} {σ σ' : Nat → jcell} (h : ∀ a, a < n → ∀ q ∈ ra_dep.getD 440 [], q.1 = K a → aSm vs q (σ a) (σ' a)) (hb : rb_440 K n p (vs.take j) σ) : rb_440 K n p (vs.take j) σ' := by
  exact hb
theorem rs_441 {K : Nat → Nat} {n : Nat} {p : rP} {vs : List jv} {j : Nat} {σ σ' : Nat → jcell} (h : ∀ a, a < n → ∀ q ∈ ra_dep.getD 441 [], q.1 = K a → aSm vs q (σ a) (σ' a)) (hb : rb_441 K n p (vs.take j) σ) : rb_441 K n p (vs.take j) σ' := by
  exact hb
theorem rs_443 {K : Nat → Nat} {n : Nat} {p : rP} {vs : List jv} {j : Nat} {σ σ' : Nat → jcell} (h : ∀ a, a < n → ∀ q ∈ ra_dep.getD 443 [], q.1 = K a → aSm vs q (σ a) (σ' a)) (hb : rb_443 K n p (vs.take j) σ) : rb_443 K n p (vs.take j) σ' := by
  exact hb
theorem rs_444 {K : Nat → Nat} {n : Nat} {p : rP} {vs : List jv} {j : Nat} {σ σ' : Nat → jcell} (h : ∀ a, a < n → ∀ q ∈ ra_dep.getD 444 [], q.1 = K a → aSm vs q (σ a) (σ' a)) (hb : rb_444 K n p (vs.take j) σ) : rb_444 K n p (vs.take j) σ' := by
  exact hb
theorem rs_445 {K : Nat → Nat} {n : Nat} {p : rP} {vs : List jv} {j : Nat} {σ σ' : Nat → jcell} (h : ∀ a, a < n → ∀ q ∈ ra_dep.getD 445 [], q.1 = K a → aSm vs q (σ a) (σ' a)) (hb : rb_445 K n p (vs.take j) σ) : rb_445 K n p (vs.take j) σ' := by
  exact hb
theorem rs_446 {K : Nat → Nat} {n : Nat} {p : rP} {vs : List jv} {j : Nat} {σ σ' : Nat → jcell} (h : ∀ a, a < n → ∀ q ∈ ra_dep.getD 446 [], q.1 = K a → aSm vs q (σ a) (σ' a)) (hb : rb_446 K n p (vs.take j) σ) : rb_446 K n p (vs.take j) σ' := by
  exact hb
theorem rs_447 {K : Nat → Nat} {n : Nat} {p : rP} {vs : List jv} {j : Nat} {σ σ' : Nat → jcell} (h : ∀ a, a < n → ∀ q ∈ ra_dep.getD 447 [], q.1 = K a → aSm vs q (σ a) (σ' a)) (hb : rb_447 K n p (vs.take j) σ) : rb_447 K n p (vs.take j) σ' := by
  exact hb
theorem rs_448 {K : Nat → Nat} {n : Nat} {p : rP} {vs : List jv} {j : Nat} {σ σ' : Nat → jcell} (h : ∀ a, a < n → ∀ q ∈ ra_dep.getD 448 [], q.1 = K a → aSm vs q (σ a) (σ' a)) (hb : rb_448 K n p (vs.take j) σ) : rb_448 K n p (vs.take j) σ' := by
  exact hb
theorem rTfllllll_st {K : Nat → Nat} {n : Nat} {k : Nat} {vs : List jv} {j : Nat} {σ σ' : Nat → jcell} (h : ∀ a, a < n → ∀ q ∈ ra_dep.getD k [], q.1 = K a → aSm vs q (σ a) (σ' a)) (hb : rTfllllll K n k (vs.take j) σ) : rTfllllll K n k (vs.take j) σ' := by
  unfold rTfllllll at hb ⊢
  cases c : Nat.beq k 100 with
  | true =>
    rw [c] at hb
    obtain rfl := Nat.eq_of_beq_eq_true c
    exact rs_100 h hb
  | false =>
    rw [c] at hb
    exact hb.elim
theorem rTflllllrl_st {K : Nat → Nat} {n : Nat} {k : Nat} {vs : List jv} {j : Nat} {σ σ' : Nat → jcell} (h : ∀ a, a < n → ∀ q ∈ ra_dep.getD k [], q.1 = K a → aSm vs q (σ a) (σ' a)) (hb : rTflllllrl K n k (vs.take j) σ) : rTflllllrl K n k (vs.take j) σ' := by
  unfold rTflllllrl at hb ⊢
  cases c : Nat.beq k 101 with
  | true =>
    rw [c] at hb
    obtain rfl := Nat.eq_of_beq_eq_true c
    exact rs_101 h hb
  | false =>
    rw [c] at hb
    exact hb.elim
theorem rTflllllrr_st {K : Nat → Nat} {n : Nat} {k : Nat} {vs : List jv} {j : Nat} {σ σ' : Nat → jcell} (h : ∀ a, a < n → ∀ q ∈ ra_dep.getD k [], q.1 = K a → aSm vs q (σ a) (σ' a)) (hb : rTflllllrr K n k (vs.take j) σ) : rTflllllrr K n k (vs.take j) σ' := by
  unfold rTflllllrr at hb ⊢
  cases c : Nat.beq k 102 with
  | true =>
    rw [c] at hb
    obtain rfl := Nat.eq_of_beq_eq_true c
    exact rs_102 h hb
  | false =>
    rw [c] at hb
    exact hb.elim
theorem rTflllllr_st {K : Nat → Nat} {n : Nat} {k : Nat} {vs : List jv} {j : Nat} {σ σ' : Nat → jcell} (h : ∀ a, a < n → ∀ q ∈ ra_dep.getD k [], q.1 = K a → aSm vs q (σ a) (σ' a)) (hb : rTflllllr K n k (vs.take j) σ) : rTflllllr K n k (vs.take j) σ' := by
  unfold rTflllllr at hb ⊢
  cases c : Nat.ble k 101 with
  | true =>
    rw [c] at hb
    exact rTflllllrl_st h hb
  | false =>
    rw [c] at hb
    exact rTflllllrr_st h hb
theorem rTflllll_st {K : Nat → Nat} {n : Nat} {k : Nat} {vs : List jv} {j : Nat} {σ σ' : Nat → jcell} (h : ∀ a, a < n → ∀ q ∈ ra_dep.getD k [], q.1 = K a → aSm vs q (σ a) (σ' a)) (hb : rTflllll K n k (vs.take j) σ) : rTflllll K n k (vs.take j) σ' := by
  unfold rTflllll at hb ⊢
  cases c : Nat.ble k 100 with
  | true =>
    rw [c] at hb
    exact rTfllllll_st h hb
  | false =>
    rw [c] at hb
    exact rTflllllr_st h hb
theorem rTfllllrll_st {K : Nat → Nat} {n : Nat} {k : Nat} {vs : List jv} {j : Nat} {σ σ' : Nat → jcell} (h : ∀ a, a < n → ∀ q ∈ ra_dep.getD k [], q.1 = K a → aSm vs q (σ a) (σ' a)) (hb : rTfllllrll K n k (vs.take j) σ) : rTfllllrll K n k (vs.take j) σ' := by
  unfold rTfllllrll at hb ⊢
  cases c : Nat.beq k 103 with
  | true =>
    rw [c] at hb
    obtain rfl := Nat.eq_of_beq_eq_true c
    exact rs_103 h hb
  | false =>
    rw [c] at hb
    exact hb.elim
theorem rTfllllrlr_st {K : Nat → Nat} {n : Nat} {k : Nat} {vs : List jv} {j : Nat} {σ σ' : Nat → jcell} (h : ∀ a, a < n → ∀ q ∈ ra_dep.getD k [], q.1 = K a → aSm vs q (σ a) (σ' a)) (hb : rTfllllrlr K n k (vs.take j) σ) : rTfllllrlr K n k (vs.take j) σ' := by
  unfold rTfllllrlr at hb ⊢
  cases c : Nat.beq k 104 with
  | true =>
    rw [c] at hb
    obtain rfl := Nat.eq_of_beq_eq_true c
    exact rs_104 h hb
  | false =>
    rw [c] at hb
    exact hb.elim
theorem rTfllllrl_st {K : Nat → Nat} {n : Nat} {k : Nat} {vs : List jv} {j : Nat} {σ σ' : Nat → jcell} (h : ∀ a, a < n → ∀ q ∈ ra_dep.getD k [], q.1 = K a → aSm vs q (σ a) (σ' a)) (hb : rTfllllrl K n k (vs.take j) σ) : rTfllllrl K n k (vs.take j) σ' := by
  unfold rTfllllrl at hb ⊢
  cases c : Nat.ble k 103 with
  | true =>
    rw [c] at hb
    exact rTfllllrll_st h hb
  | false =>
    rw [c] at hb
    exact rTfllllrlr_st h hb
theorem rTfllllrrl_st {K : Nat → Nat} {n : Nat} {k : Nat} {vs : List jv} {j : Nat} {σ σ' : Nat → jcell} (h : ∀ a, a < n → ∀ q ∈ ra_dep.getD k [], q.1 = K a → aSm vs q (σ a) (σ' a)) (hb : rTfllllrrl K n k (vs.take j) σ) : rTfllllrrl K n k (vs.take j) σ' := by
  unfold rTfllllrrl at hb ⊢
  cases c : Nat.beq k 105 with
  | true =>
    rw [c] at hb
    obtain rfl := Nat.eq_of_beq_eq_true c
    exact rs_105 h hb
  | false =>
    rw [c] at hb
    exact hb.elim
theorem rTfllllrrr_st {K : Nat → Nat} {n : Nat} {k : Nat} {vs : List jv} {j : Nat} {σ σ' : Nat → jcell} (h : ∀ a, a < n → ∀ q ∈ ra_dep.getD k [], q.1 = K a → aSm vs q (σ a) (σ' a)) (hb : rTfllllrrr K n k (vs.take j) σ) : rTfllllrrr K n k (vs.take j) σ' := by
  unfold rTfllllrrr at hb ⊢
  cases c : Nat.beq k 106 with
  | true =>
    rw [c] at hb
    obtain rfl := Nat.eq_of_beq_eq_true c
    exact rs_106 h hb
  | false =>
    rw [c] at hb
    exact hb.elim
theorem rTfllllrr_st {K : Nat → Nat} {n : Nat} {k : Nat} {vs : List jv} {j : Nat} {σ σ' : Nat → jcell} (h : ∀ a, a < n → ∀ q ∈ ra_dep.getD k [], q.1 = K a → aSm vs q (σ a) (σ' a)) (hb : rTfllllrr K n k (vs.take j) σ) : rTfllllrr K n k (vs.take j) σ' := by
  unfold rTfllllrr at hb ⊢
  cases c : Nat.ble k 105 with
  | true =>
    rw [c] at hb
    exact rTfllllrrl_st h hb
  | false =>
    rw [c] at hb
    exact rTfllllrrr_st h hb
theorem rTfllllr_st {K : Nat → Nat} {n : Nat} {k : Nat} {vs : List jv} {j : Nat} {σ σ' : Nat → jcell} (h : ∀ a, a < n → ∀ q ∈ ra_dep.getD k [], q.1 = K a → aSm vs q (σ a) (σ' a)) (hb : rTfllllr K n k (vs.take j) σ) : rTfllllr K n k (vs.take j) σ' := by
  unfold rTfllllr at hb ⊢
  cases c : Nat.ble k 104 with
  | true =>
    rw [c] at hb
    exact rTfllllrl_st h hb
  | false =>
    rw [c] at hb
    exact rTfllllrr_st h hb
theorem rTfllll_st {K : Nat → Nat} {n : Nat} {k : Nat} {vs : List jv} {j : Nat} {σ σ' : Nat → jcell} (h : ∀ a, a < n → ∀ q ∈ ra_dep.getD k [], q.1 = K a → aSm vs q (σ a) (σ' a)) (hb : rTfllll K n k (vs.take j) σ) : rTfllll K n k (vs.take j) σ' := by
  unfold rTfllll at hb ⊢
  cases c : Nat.ble k 102 with
  | true =>
    rw [c] at hb
    exact rTflllll_st h hb
  | false =>
    rw [c] at hb
    exact rTfllllr_st h hb
theorem rTflllrlll_st {K : Nat → Nat} {n : Nat} {k : Nat} {vs : List jv} {j : Nat} {σ σ' : Nat → jcell} (h : ∀ a, a < n → ∀ q ∈ ra_dep.getD k [], q.1 = K a → aSm vs q (σ a) (σ' a)) (hb : rTflllrlll K n k (vs.take j) σ) : rTflllrlll K n k (vs.take j) σ' := by
  unfold rTflllrlll at hb ⊢
  cases c : Nat.beq k 107 with
  | true =>
    rw [c] at hb
    obtain rfl := Nat.eq_of_beq_eq_true c
    exact rs_107 h hb
  | false =>
    rw [c] at hb
    exact hb.elim
theorem rTflllrllr_st {K : Nat → Nat} {n : Nat} {k : Nat} {vs : List jv} {j : Nat} {σ σ' : Nat → jcell} (h : ∀ a, a < n → ∀ q ∈ ra_dep.getD k [], q.1 = K a → aSm vs q (σ a) (σ' a)) (hb : rTflllrllr K n k (vs.take j) σ) : rTflllrllr K n k (vs.take j) σ' := by
  unfold rTflllrllr at hb ⊢
  cases c : Nat.beq k 108 with
  | true =>
    rw [c] at hb
    obtain rfl := Nat.eq_of_beq_eq_true c
    exact rs_108 h hb
  | false =>
    rw [c] at hb
    exact hb.elim
theorem rTflllrll_st {K : Nat → Nat} {n : Nat} {k : Nat} {vs : List jv} {j : Nat} {σ σ' : Nat → jcell} (h : ∀ a, a < n → ∀ q ∈ ra_dep.getD k [], q.1 = K a → aSm vs q (σ a) (σ' a)) (hb : rTflllrll K n k (vs.take j) σ) : rTflllrll K n k (vs.take j) σ' := by
  unfold rTflllrll at hb ⊢
  cases c : Nat.ble k 107 with
  | true =>
    rw [c] at hb
    exact rTflllrlll_st h hb
  | false =>
    rw [c] at hb
    exact rTflllrllr_st h hb
theorem rTflllrlrl_st {K : Nat → Nat} {n : Nat} {k : Nat} {vs : List jv} {j : Nat} {σ σ' : Nat → jcell} (h : ∀ a, a < n → ∀ q ∈ ra_dep.getD k [], q.1 = K a → aSm vs q (σ a) (σ' a)) (hb : rTflllrlrl K n k (vs.take j) σ) : rTflllrlrl K n k (vs.take j) σ' := by
  unfold rTflllrlrl at hb ⊢
  cases c : Nat.beq k 109 with
  | true =>
    rw [c] at hb
    obtain rfl := Nat.eq_of_beq_eq_true c
    exact rs_109 h hb
  | false =>
    rw [c] at hb
    exact hb.elim
theorem rTflllrlrr_st {K : Nat → Nat} {n : Nat} {k : Nat} {vs : List jv} {j : Nat} {σ σ' : Nat → jcell} (h : ∀ a, a < n → ∀ q ∈ ra_dep.getD k [], q.1 = K a → aSm vs q (σ a) (σ' a)) (hb : rTflllrlrr K n k (vs.take j) σ) : rTflllrlrr K n k (vs.take j) σ' := by
  unfold rTflllrlrr at hb ⊢
  cases c : Nat.beq k 110 with
  | true =>
    rw [c] at hb
    obtain rfl := Nat.eq_of_beq_eq_true c
    exact rs_110 h hb
  | false =>
    rw [c] at hb
    exact hb.elim
theorem rTflllrlr_st {K : Nat → Nat} {n : Nat} {k : Nat} {vs : List jv} {j : Nat} {σ σ' : Nat → jcell} (h : ∀ a, a < n → ∀ q ∈ ra_dep.getD k [], q.1 = K a → aSm vs q (σ a) (σ' a)) (hb : rTflllrlr K n k (vs.take j) σ) : rTflllrlr K n k (vs.take j) σ' := by
  unfold rTflllrlr at hb ⊢
  cases c : Nat.ble k 109 with
  | true =>
    rw [c] at hb
    exact rTflllrlrl_st h hb
  | false =>
    rw [c] at hb
    exact rTflllrlrr_st h hb
theorem rTflllrl_st {K : Nat → Nat} {n : Nat} {k : Nat} {vs : List jv} {j : Nat} {σ σ' : Nat → jcell} (h : ∀ a, a < n → ∀ q ∈ ra_dep.getD k [], q.1 = K a → aSm vs q (σ a) (σ' a)) (hb : rTflllrl K n k (vs.take j) σ) : rTflllrl K n k (vs.take j) σ' := by
  unfold rTflllrl at hb ⊢
  cases c : Nat.ble k 108 with
  | true =>
    rw [c] at hb
    exact rTflllrll_st h hb
  | false =>
    rw [c] at hb
    exact rTflllrlr_st h hb
theorem rTflllrrll_st {K : Nat → Nat} {n : Nat} {k : Nat} {vs : List jv} {j : Nat} {σ σ' : Nat → jcell} (h : ∀ a, a < n → ∀ q ∈ ra_dep.getD k [], q.1 = K a → aSm vs q (σ a) (σ' a)) (hb : rTflllrrll K n k (vs.take j) σ) : rTflllrrll K n k (vs.take j) σ' := by
  unfold rTflllrrll at hb ⊢
  cases c : Nat.beq k 111 with
  | true =>
    rw [c] at hb
    obtain rfl := Nat.eq_of_beq_eq_true c
    exact rs_111 h hb
  | false =>
    rw [c] at hb
    exact hb.elim
theorem rTflllrrlr_st {K : Nat → Nat} {n : Nat} {k : Nat} {vs : List jv} {j : Nat} {σ σ' : Nat → jcell} (h : ∀ a, a < n → ∀ q ∈ ra_dep.getD k [], q.1 = K a → aSm vs q (σ a) (σ' a)) (hb : rTflllrrlr K n k (vs.take j) σ) : rTflllrrlr K n k (vs.take j) σ' := by
  unfold rTflllrrlr at hb ⊢
  cases c : Nat.beq k 112 with
  | true =>
    rw [c] at hb
    obtain rfl := Nat.eq_of_beq_eq_true c
    exact rs_112 h hb
  | false =>
    rw [c] at hb
    exact hb.elim
theorem rTflllrrl_st {K : Nat → Nat} {n : Nat} {k : Nat} {vs : List jv} {j : Nat} {σ σ' : Nat → jcell} (h : ∀ a, a < n → ∀ q ∈ ra_dep.getD k [], q.1 = K a → aSm vs q (σ a) (σ' a)) (hb : rTflllrrl K n k (vs.take j) σ) : rTflllrrl K n k (vs.take j) σ' := by
  unfold rTflllrrl at hb ⊢
  cases c : Nat.ble k 111 with
  | true =>
    rw [c] at hb
    exact rTflllrrll_st h hb
  | false =>
    rw [c] at hb
    exact rTflllrrlr_st h hb
theorem rTflllrrrl_st {K : Nat → Nat} {n : Nat} {k : Nat} {vs : List jv} {j : Nat} {σ σ' : Nat → jcell} (h : ∀ a, a < n → ∀ q ∈ ra_dep.getD k [], q.1 = K a → aSm vs q (σ a) (σ' a)) (hb : rTflllrrrl K n k (vs.take j) σ) : rTflllrrrl K n k (vs.take j) σ' := by
  unfold rTflllrrrl at hb ⊢
  cases c : Nat.beq k 113 with
  | true =>
    rw [c] at hb
    obtain rfl := Nat.eq_of_beq_eq_true c
    exact rs_113 h hb
  | false =>
    rw [c] at hb
    exact hb.elim
theorem rTflllrrrr_st {K : Nat → Nat} {n : Nat} {k : Nat} {vs : List jv} {j : Nat} {σ σ' : Nat → jcell} (h : ∀ a, a < n → ∀ q ∈ ra_dep.getD k [], q.1 = K a → aSm vs q (σ a) (σ' a)) (hb : rTflllrrrr K n k (vs.take j) σ) : rTflllrrrr K n k (vs.take j) σ' := by
  unfold rTflllrrrr at hb ⊢
  cases c : Nat.beq k 114 with
  | true =>
    rw [c] at hb
    obtain rfl := Nat.eq_of_beq_eq_true c
    exact rs_114 h hb
  | false =>
    rw [c] at hb
    exact hb.elim
theorem rTflllrrr_st {K : Nat → Nat} {n : Nat} {k : Nat} {vs : List jv} {j : Nat} {σ σ' : Nat → jcell} (h : ∀ a, a < n → ∀ q ∈ ra_dep.getD k [], q.1 = K a → aSm vs q (σ a) (σ' a)) (hb : rTflllrrr K n k (vs.take j) σ) : rTflllrrr K n k (vs.take j) σ' := by
  unfold rTflllrrr at hb ⊢
  cases c : Nat.ble k 113 with
  | true =>
    rw [c] at hb
    exact rTflllrrrl_st h hb
  | false =>
    rw [c] at hb
    exact rTflllrrrr_st h hb
theorem rTflllrr_st {K : Nat → Nat} {n : Nat} {k : Nat} {vs : List jv} {j : Nat} {σ σ' : Nat → jcell} (h : ∀ a, a < n → ∀ q ∈ ra_dep.getD k [], q.1 = K a → aSm vs q (σ a) (σ' a)) (hb : rTflllrr K n k (vs.take j) σ) : rTflllrr K n k (vs.take j) σ' := by
  unfold rTflllrr at hb ⊢
  cases c : Nat.ble k 112 with
  | true =>
    rw [c] at hb
    exact rTflllrrl_st h hb
  | false =>
    rw [c] at hb
    exact rTflllrrr_st h hb
theorem rTflllr_st {K : Nat → Nat} {n : Nat} {k : Nat} {vs : List jv} {j : Nat} {σ σ' : Nat → jcell} (h : ∀ a, a < n → ∀ q ∈ ra_dep.getD k [], q.1 = K a → aSm vs q (σ a) (σ' a)) (hb : rTflllr K n k (vs.take j) σ) : rTflllr K n k (vs.take j) σ' := by
  unfold rTflllr at hb ⊢
  cases c : Nat.ble k 110 with
  | true =>
    rw [c] at hb
    exact rTflllrl_st h hb
  | false =>
    rw [c] at hb
    exact rTflllrr_st h hb
theorem rTflll_st {K : Nat → Nat} {n : Nat} {k : Nat} {vs : List jv} {j : Nat} {σ σ' : Nat → jcell} (h : ∀ a, a < n → ∀ q ∈ ra_dep.getD k [], q.1 = K a → aSm vs q (σ a) (σ' a)) (hb : rTflll K n k (vs.take j) σ) : rTflll K n k (vs.take j) σ' := by
  unfold rTflll at hb ⊢
  cases c : Nat.ble k 106 with
  | true =>
    rw [c] at hb
    exact rTfllll_st h hb
  | false =>
    rw [c] at hb
    exact rTflllr_st h hb
theorem rTfllrllll_st {K : Nat → Nat} {n : Nat} {k : Nat} {vs : List jv} {j : Nat} {σ σ' : Nat → jcell} (h : ∀ a, a < n → ∀ q ∈ ra_dep.getD k [], q.1 = K a → aSm vs q (σ a) (σ' a)) (hb : rTfllrllll K n k (vs.take j) σ) : rTfllrllll K n k (vs.take j) σ' := by
  unfold rTfllrllll at hb ⊢
  cases c : Nat.beq k 115 with
  | true =>
    rw [c] at hb
    obtain rfl := Nat.eq_of_beq_eq_true c
    exact rs_115 h hb
  | false =>
    rw [c] at hb
    exact hb.elim
theorem rTfllrlllr_st {K : Nat → Nat} {n : Nat} {k : Nat} {vs : List jv} {j : Nat} {σ σ' : Nat → jcell} (h : ∀ a, a < n → ∀ q ∈ ra_dep.getD k [], q.1 = K a → aSm vs q (σ a) (σ' a)) (hb : rTfllrlllr K n k (vs.take j) σ) : rTfllrlllr K n k (vs.take j) σ' := by
  unfold rTfllrlllr at hb ⊢
  cases c : Nat.beq k 116 with
  | true =>
    rw [c] at hb
    obtain rfl := Nat.eq_of_beq_eq_true c
    exact rs_116 h hb
  | false =>
    rw [c] at hb
    exact hb.elim
theorem rTfllrlll_st {K : Nat → Nat} {n : Nat} {k : Nat} {vs : List jv} {j : Nat} {σ σ' : Nat → jcell} (h : ∀ a, a < n → ∀ q ∈ ra_dep.getD k [], q.1 = K a → aSm vs q (σ a) (σ' a)) (hb : rTfllrlll K n k (vs.take j) σ) : rTfllrlll K n k (vs.take j) σ' := by
  unfold rTfllrlll at hb ⊢
  cases c : Nat.ble k 115 with
  | true =>
    rw [c] at hb
    exact rTfllrllll_st h hb
  | false =>
    rw [c] at hb
    exact rTfllrlllr_st h hb
theorem rTfllrllrl_st {K : Nat → Nat} {n : Nat} {k : Nat} {vs : List jv} {j : Nat} {σ σ' : Nat → jcell} (h : ∀ a, a < n → ∀ q ∈ ra_dep.getD k [], q.1 = K a → aSm vs q (σ a) (σ' a)) (hb : rTfllrllrl K n k (vs.take j) σ) : rTfllrllrl K n k (vs.take j) σ' := by
  unfold rTfllrllrl at hb ⊢
  cases c : Nat.beq k 117 with
  | true =>
    rw [c] at hb
    obtain rfl := Nat.eq_of_beq_eq_true c
    exact rs_117 h hb
  | false =>
    rw [c] at hb
    exact hb.elim
theorem rTfllrllrr_st {K : Nat → Nat} {n : Nat} {k : Nat} {vs : List jv} {j : Nat} {σ σ' : Nat → jcell} (h : ∀ a, a < n → ∀ q ∈ ra_dep.getD k [], q.1 = K a → aSm vs q (σ a) (σ' a)) (hb : rTfllrllrr K n k (vs.take j) σ) : rTfllrllrr K n k (vs.take j) σ' := by
  unfold rTfllrllrr at hb ⊢
  cases c : Nat.beq k 120 with
  | true =>
    rw [c] at hb
    obtain rfl := Nat.eq_of_beq_eq_true c
    exact rs_120 h hb
  | false =>
    rw [c] at hb
    exact hb.elim
theorem rTfllrllr_st {K : Nat → Nat} {n : Nat} {k : Nat} {vs : List jv} {j : Nat} {σ σ' : Nat → jcell} (h : ∀ a, a < n → ∀ q ∈ ra_dep.getD k [], q.1 = K a → aSm vs q (σ a) (σ' a)) (hb : rTfllrllr K n k (vs.take j) σ) : rTfllrllr K n k (vs.take j) σ' := by
  unfold rTfllrllr at hb ⊢
  cases c : Nat.ble k 117 with
  | true =>
    rw [c] at hb
    exact rTfllrllrl_st h hb
  | false =>
    rw [c] at hb
    exact rTfllrllrr_st h hb
theorem rTfllrll_st {K : Nat → Nat} {n : Nat} {k : Nat} {vs : List jv} {j : Nat} {σ σ' : Nat → jcell} (h : ∀ a, a < n → ∀ q ∈ ra_dep.getD k [], q.1 = K a → aSm vs q (σ a) (σ' a)) (hb : rTfllrll K n k (vs.take j) σ) : rTfllrll K n k (vs.take j) σ' := by
  unfold rTfllrll at hb ⊢
  cases c : Nat.ble k 116 with
  | true =>
    rw [c] at hb
    exact rTfllrlll_st h hb
  | false =>
    rw [c] at hb
    exact rTfllrllr_st h hb
theorem rTfllrlrll_st {K : Nat → Nat} {n : Nat} {k : Nat} {vs : List jv} {j : Nat} {σ σ' : Nat → jcell} (h : ∀ a, a < n → ∀ q ∈ ra_dep.getD k [], q.1 = K a → aSm vs q (σ a) (σ' a)) (hb : rTfllrlrll K n k (vs.take j) σ) : rTfllrlrll K n k (vs.take j) σ' := by
  unfold rTfllrlrll at hb ⊢
  cases c : Nat.beq k 121 with
  | true =>
    rw [c] at hb
    obtain rfl := Nat.eq_of_beq_eq_true c
    exact rs_121 h hb
  | false =>
    rw [c] at hb
    exact hb.elim
theorem rTfllrlrlr_st {K : Nat → Nat} {n : Nat} {k : Nat} {vs : List jv} {j : Nat} {σ σ' : Nat → jcell} (h : ∀ a, a < n → ∀ q ∈ ra_dep.getD k [], q.1 = K a → aSm vs q (σ a) (σ' a)) (hb : rTfllrlrlr K n k (vs.take j) σ) : rTfllrlrlr K n k (vs.take j) σ' := by
  unfold rTfllrlrlr at hb ⊢
  cases c : Nat.beq k 122 with
  | true =>
    rw [c] at hb
    obtain rfl := Nat.eq_of_beq_eq_true c
    exact rs_122 h hb
  | false =>
    rw [c] at hb
    exact hb.elim
theorem rTfllrlrl_st {K : Nat → Nat} {n : Nat} {k : Nat} {vs : List jv} {j : Nat} {σ σ' : Nat → jcell} (h : ∀ a, a < n → ∀ q ∈ ra_dep.getD k [], q.1 = K a → aSm vs q (σ a) (σ' a)) (hb : rTfllrlrl K n k (vs.take j) σ) : rTfllrlrl K n k (vs.take j) σ' := by
  unfold rTfllrlrl at hb ⊢
  cases c : Nat.ble k 121 with
  | true =>
    rw [c] at hb
    exact rTfllrlrll_st h hb
  | false =>
    rw [c] at hb
    exact rTfllrlrlr_st h hb
theorem rTfllrlrrl_st {K : Nat → Nat} {n : Nat} {k : Nat} {vs : List jv} {j : Nat} {σ σ' : Nat → jcell} (h : ∀ a, a < n → ∀ q ∈ ra_dep.getD k [], q.1 = K a → aSm vs q (σ a) (σ' a)) (hb : rTfllrlrrl K n k (vs.take j) σ) : rTfllrlrrl K n k (vs.take j) σ' := by
  unfold rTfllrlrrl at hb ⊢
  cases c : Nat.beq k 123 with
  | true =>
    rw [c] at hb
    obtain rfl := Nat.eq_of_beq_eq_true c
    exact rs_123 h hb
  | false =>
    rw [c] at hb
    exact hb.elim
theorem rTfllrlrrr_st {K : Nat → Nat} {n : Nat} {k : Nat} {vs : List jv} {j : Nat} {σ σ' : Nat → jcell} (h : ∀ a, a < n → ∀ q ∈ ra_dep.getD k [], q.1 = K a → aSm vs q (σ a) (σ' a)) (hb : rTfllrlrrr K n k (vs.take j) σ) : rTfllrlrrr K n k (vs.take j) σ' := by
  unfold rTfllrlrrr at hb ⊢
  cases c : Nat.beq k 124 with
  | true =>
    rw [c] at hb
    obtain rfl := Nat.eq_of_beq_eq_true c
    exact rs_124 h hb
  | false =>
    rw [c] at hb
    exact hb.elim
theorem rTfllrlrr_st {K : Nat → Nat} {n : Nat} {k : Nat} {vs : List jv} {j : Nat} {σ σ' : Nat → jcell} (h : ∀ a, a < n → ∀ q ∈ ra_dep.getD k [], q.1 = K a → aSm vs q (σ a) (σ' a)) (hb : rTfllrlrr K n k (vs.take j) σ) : rTfllrlrr K n k (vs.take j) σ' := by
  unfold rTfllrlrr at hb ⊢
  cases c : Nat.ble k 123 with
  | true =>
    rw [c] at hb
    exact rTfllrlrrl_st h hb
  | false =>
    rw [c] at hb
    exact rTfllrlrrr_st h hb
theorem rTfllrlr_st {K : Nat → Nat} {n : Nat} {k : Nat} {vs : List jv} {j : Nat} {σ σ' : Nat → jcell} (h : ∀ a, a < n → ∀ q ∈ ra_dep.getD k [], q.1 = K a → aSm vs q (σ a) (σ' a)) (hb : rTfllrlr K n k (vs.take j) σ) : rTfllrlr K n k (vs.take j) σ' := by
  unfold rTfllrlr at hb ⊢
  cases c : Nat.ble k 122 with
  | true =>
    rw [c] at hb
    exact rTfllrlrl_st h hb
  | false =>
    rw [c] at hb
    exact rTfllrlrr_st h hb
theorem rTfllrl_st {K : Nat → Nat} {n : Nat} {k : Nat} {vs : List jv} {j : Nat} {σ σ' : Nat → jcell} (h : ∀ a, a < n → ∀ q ∈ ra_dep.getD k [], q.1 = K a → aSm vs q (σ a) (σ' a)) (hb : rTfllrl K n k (vs.take j) σ) : rTfllrl K n k (vs.take j) σ' := by
  unfold rTfllrl at hb ⊢
  cases c : Nat.ble k 120 with
  | true =>
    rw [c] at hb
    exact rTfllrll_st h hb
  | false =>
    rw [c] at hb
    exact rTfllrlr_st h hb
theorem rTfllrrlll_st {K : Nat → Nat} {n : Nat} {k : Nat} {vs : List jv} {j : Nat} {σ σ' : Nat → jcell} (h : ∀ a, a < n → ∀ q ∈ ra_dep.getD k [], q.1 = K a → aSm vs q (σ a) (σ' a)) (hb : rTfllrrlll K n k (vs.take j) σ) : rTfllrrlll K n k (vs.take j) σ' := by
  unfold rTfllrrlll at hb ⊢
  cases c : Nat.beq k 125 with
  | true =>
    rw [c] at hb
    obtain rfl := Nat.eq_of_beq_eq_true c
    exact rs_125 h hb
  | false =>
    rw [c] at hb
    exact hb.elim
theorem rTfllrrllr_st {K : Nat → Nat} {n : Nat} {k : Nat} {vs : List jv} {j : Nat} {σ σ' : Nat → jcell} (h : ∀ a, a < n → ∀ q ∈ ra_dep.getD k [], q.1 = K a → aSm vs q (σ a) (σ' a)) (hb : rTfllrrllr K n k (vs.take j) σ) : rTfllrrllr K n k (vs.take j) σ' := by
  unfold rTfllrrllr at hb ⊢
  cases c : Nat.beq k 126 with
  | true =>
    rw [c] at hb
    obtain rfl := Nat.eq_of_beq_eq_true c
    exact rs_126 h hb
  | false =>
    rw [c] at hb
    exact hb.elim
theorem rTfllrrll_st {K : Nat → Nat} {n : Nat} {k : Nat} {vs : List jv} {j : Nat} {σ σ' : Nat → jcell} (h : ∀ a, a < n → ∀ q ∈ ra_dep.getD k [], q.1 = K a → aSm vs q (σ a) (σ' a)) (hb : rTfllrrll K n k (vs.take j) σ) : rTfllrrll K n k (vs.take j) σ' := by
  unfold rTfllrrll at hb ⊢
  cases c : Nat.ble k 125 with
  | true =>
    rw [c] at hb
    exact rTfllrrlll_st h hb
  | false =>
    rw [c] at hb
    exact rTfllrrllr_st h hb
theorem rTfllrrlrl_st {K : Nat → Nat} {n : Nat} {k : Nat} {vs : List jv} {j : Nat} {σ σ' : Nat → jcell} (h : ∀ a, a < n → ∀ q ∈ ra_dep.getD k [], q.1 = K a → aSm vs q (σ a) (σ' a)) (hb : rTfllrrlrl K n k (vs.take j) σ) : rTfllrrlrl K n k (vs.take j) σ' := by
  unfold rTfllrrlrl at hb ⊢
  cases c : Nat.beq k 127 with
  | true =>
    rw [c] at hb
    obtain rfl := Nat.eq_of_beq_eq_true c
    exact rs_127 h hb
  | false =>
    rw [c] at hb
    exact hb.elim
theorem rTfllrrlrr_st {K : Nat → Nat} {n : Nat} {k : Nat} {vs : List jv} {j : Nat} {σ σ' : Nat → jcell} (h : ∀ a, a < n → ∀ q ∈ ra_dep.getD k [], q.1 = K a → aSm vs q (σ a) (σ' a)) (hb : rTfllrrlrr K n k (vs.take j) σ) : rTfllrrlrr K n k (vs.take j) σ' := by
  unfold rTfllrrlrr at hb ⊢
  cases c : Nat.beq k 128 with
  | true =>
    rw [c] at hb
    obtain rfl := Nat.eq_of_beq_eq_true c
    exact rs_128 h hb
  | false =>
    rw [c] at hb
    exact hb.elim
theorem rTfllrrlr_st {K : Nat → Nat} {n : Nat} {k : Nat} {vs : List jv} {j : Nat} {σ σ' : Nat → jcell} (h : ∀ a, a < n → ∀ q ∈ ra_dep.getD k [], q.1 = K a → aSm vs q (σ a) (σ' a)) (hb : rTfllrrlr K n k (vs.take j) σ) : rTfllrrlr K n k (vs.take j) σ' := by
  unfold rTfllrrlr at hb ⊢
  cases c : Nat.ble k 127 with
  | true =>
    rw [c] at hb
    exact rTfllrrlrl_st h hb
  | false =>
    rw [c] at hb
    exact rTfllrrlrr_st h hb
theorem rTfllrrl_st {K : Nat → Nat} {n : Nat} {k : Nat} {vs : List jv} {j : Nat} {σ σ' : Nat → jcell} (h : ∀ a, a < n → ∀ q ∈ ra_dep.getD k [], q.1 = K a → aSm vs q (σ a) (σ' a)) (hb : rTfllrrl K n k (vs.take j) σ) : rTfllrrl K n k (vs.take j) σ' := by
  unfold rTfllrrl at hb ⊢
  cases c : Nat.ble k 126 with
  | true =>
    rw [c] at hb
    exact rTfllrrll_st h hb
  | false =>
    rw [c] at hb
    exact rTfllrrlr_st h hb
theorem rTfllrrrll_st {K : Nat → Nat} {n : Nat} {k : Nat} {vs : List jv} {j : Nat} {σ σ' : Nat → jcell} (h : ∀ a, a < n → ∀ q ∈ ra_dep.getD k [], q.1 = K a → aSm vs q (σ a) (σ' a)) (hb : rTfllrrrll K n k (vs.take j) σ) : rTfllrrrll K n k (vs.take j) σ' := by
  unfold rTfllrrrll at hb ⊢
  cases c : Nat.beq k 129 with
  | true =>
    rw [c] at hb
    obtain rfl := Nat.eq_of_beq_eq_true c
    exact rs_129 h hb
  | false =>
    rw [c] at hb
    exact hb.elim
theorem rTfllrrrlr_st {K : Nat → Nat} {n : Nat} {k : Nat} {vs : List jv} {j : Nat} {σ σ' : Nat → jcell} (h : ∀ a, a < n → ∀ q ∈ ra_dep.getD k [], q.1 = K a → aSm vs q (σ a) (σ' a)) (hb : rTfllrrrlr K n k (vs.take j) σ) : rTfllrrrlr K n k (vs.take j) σ' := by
  unfold rTfllrrrlr at hb ⊢
  cases c : Nat.beq k 130 with
  | true =>
    rw [c] at hb
    obtain rfl := Nat.eq_of_beq_eq_true c
    exact rs_130 h hb
  | false =>
    rw [c] at hb
    exact hb.elim
theorem rTfllrrrl_st {K : Nat → Nat} {n : Nat} {k : Nat} {vs : List jv} {j : Nat} {σ σ' : Nat → jcell} (h : ∀ a, a < n → ∀ q ∈ ra_dep.getD k [], q.1 = K a → aSm vs q (σ a) (σ' a)) (hb : rTfllrrrl K n k (vs.take j) σ) : rTfllrrrl K n k (vs.take j) σ' := by
  unfold rTfllrrrl at hb ⊢
  cases c : Nat.ble k 129 with
  | true =>
    rw [c] at hb
    exact rTfllrrrll_st h hb
  | false =>
    rw [c] at hb
    exact rTfllrrrlr_st h hb
theorem rTfllrrrrl_st {K : Nat → Nat} {n : Nat} {k : Nat} {vs : List jv} {j : Nat} {σ σ' : Nat → jcell} (h : ∀ a, a < n → ∀ q ∈ ra_dep.getD k [], q.1 = K a → aSm vs q (σ a) (σ' a)) (hb : rTfllrrrrl K n k (vs.take j) σ) : rTfllrrrrl K n k (vs.take j) σ' := by
  unfold rTfllrrrrl at hb ⊢
  cases c : Nat.beq k 131 with
  | true =>
    rw [c] at hb
    obtain rfl := Nat.eq_of_beq_eq_true c
    exact rs_131 h hb
  | false =>
    rw [c] at hb
    exact hb.elim
theorem rTfllrrrrr_st {K : Nat → Nat} {n : Nat} {k : Nat} {vs : List jv} {j : Nat} {σ σ' : Nat → jcell} (h : ∀ a, a < n → ∀ q ∈ ra_dep.getD k [], q.1 = K a → aSm vs q (σ a) (σ' a)) (hb : rTfllrrrrr K n k (vs.take j) σ) : rTfllrrrrr K n k (vs.take j) σ' := by
  unfold rTfllrrrrr at hb ⊢
  cases c : Nat.beq k 132 with
  | true =>
    rw [c] at hb
    obtain rfl := Nat.eq_of_beq_eq_true c
    exact rs_132 h hb
  | false =>
    rw [c] at hb
    exact hb.elim
theorem rTfllrrrr_st {K : Nat → Nat} {n : Nat} {k : Nat} {vs : List jv} {j : Nat} {σ σ' : Nat → jcell} (h : ∀ a, a < n → ∀ q ∈ ra_dep.getD k [], q.1 = K a → aSm vs q (σ a) (σ' a)) (hb : rTfllrrrr K n k (vs.take j) σ) : rTfllrrrr K n k (vs.take j) σ' := by
  unfold rTfllrrrr at hb ⊢
  cases c : Nat.ble k 131 with
  | true =>
    rw [c] at hb
    exact rTfllrrrrl_st h hb
  | false =>
    rw [c] at hb
    exact rTfllrrrrr_st h hb
theorem rTfllrrr_st {K : Nat → Nat} {n : Nat} {k : Nat} {vs : List jv} {j : Nat} {σ σ' : Nat → jcell} (h : ∀ a, a < n → ∀ q ∈ ra_dep.getD k [], q.1 = K a → aSm vs q (σ a) (σ' a)) (hb : rTfllrrr K n k (vs.take j) σ) : rTfllrrr K n k (vs.take j) σ' := by
  unfold rTfllrrr at hb ⊢
  cases c : Nat.ble k 130 with
  | true =>
    rw [c] at hb
    exact rTfllrrrl_st h hb
  | false =>
    rw [c] at hb
    exact rTfllrrrr_st h hb
theorem rTfllrr_st {K : Nat → Nat} {n : Nat} {k : Nat} {vs : List jv} {j : Nat} {σ σ' : Nat → jcell} (h : ∀ a, a < n → ∀ q ∈ ra_dep.getD k [], q.1 = K a → aSm vs q (σ a) (σ' a)) (hb : rTfllrr K n k (vs.take j) σ) : rTfllrr K n k (vs.take j) σ' := by
  unfold rTfllrr at hb ⊢
  cases c : Nat.ble k 128 with
  | true =>
    rw [c] at hb
    exact rTfllrrl_st h hb
  | false =>
    rw [c] at hb
    exact rTfllrrr_st h hb
theorem rTfllr_st {K : Nat → Nat} {n : Nat} {k : Nat} {vs : List jv} {j : Nat} {σ σ' : Nat → jcell} (h : ∀ a, a < n → ∀ q ∈ ra_dep.getD k [], q.1 = K a → aSm vs q (σ a) (σ' a)) (hb : rTfllr K n k (vs.take j) σ) : rTfllr K n k (vs.take j) σ' := by
  unfold rTfllr at hb ⊢
  cases c : Nat.ble k 124 with
  | true =>
    rw [c] at hb
    exact rTfllrl_st h hb
  | false =>
    rw [c] at hb
    exact rTfllrr_st h hb
theorem rTfll_st {K : Nat → Nat} {n : Nat} {k : Nat} {vs : List jv} {j : Nat} {σ σ' : Nat → jcell} (h : ∀ a, a < n → ∀ q ∈ ra_dep.getD k [], q.1 = K a → aSm vs q (σ a) (σ' a)) (hb : rTfll K n k (vs.take j) σ) : rTfll K n k (vs.take j) σ' := by
  unfold rTfll at hb ⊢
  cases c : Nat.ble k 114 with
  | true =>
    rw [c] at hb
    exact rTflll_st h hb
  | false =>
    rw [c] at hb
    exact rTfllr_st h hb
theorem rTflrlllll_st {K : Nat → Nat} {n : Nat} {k : Nat} {vs : List jv} {j : Nat} {σ σ' : Nat → jcell} (h : ∀ a, a < n → ∀ q ∈ ra_dep.getD k [], q.1 = K a → aSm vs q (σ a) (σ' a)) (hb : rTflrlllll K n k (vs.take j) σ) : rTflrlllll K n k (vs.take j) σ' := by
  unfold rTflrlllll at hb ⊢
  cases c : Nat.beq k 133 with
  | true =>
    rw [c] at hb
    obtain rfl := Nat.eq_of_beq_eq_true c
    exact rs_133 h hb
  | false =>
    rw [c] at hb
    exact hb.elim
theorem rTflrllllr_st {K : Nat → Nat} {n : Nat} {k : Nat} {vs : List jv} {j : Nat} {σ σ' : Nat → jcell} (h : ∀ a, a < n → ∀ q ∈ ra_dep.getD k [], q.1 = K a → aSm vs q (σ a) (σ' a)) (hb : rTflrllllr K n k (vs.take j) σ) : rTflrllllr K n k (vs.take j) σ' := by
  unfold rTflrllllr at hb ⊢
  cases c : Nat.beq k 134 with
  | true =>
    rw [c] at hb
    obtain rfl := Nat.eq_of_beq_eq_true c
    exact rs_134 h hb
  | false =>
    rw [c] at hb
    exact hb.elim
theorem rTflrllll_st {K : Nat → Nat} {n : Nat} {k : Nat} {vs : List jv} {j : Nat} {σ σ' : Nat → jcell} (h : ∀ a, a < n → ∀ q ∈ ra_dep.getD k [], q.1 = K a → aSm vs q (σ a) (σ' a)) (hb : rTflrllll K n k (vs.take j) σ) : rTflrllll K n k (vs.take j) σ' := by
  unfold rTflrllll at hb ⊢
  cases c : Nat.ble k 133 with
  | true =>
    rw [c] at hb
    exact rTflrlllll_st h hb
  | false =>
    rw [c] at hb
    exact rTflrllllr_st h hb
theorem rTflrlllrl_st {K : Nat → Nat} {n : Nat} {k : Nat} {vs : List jv} {j : Nat} {σ σ' : Nat → jcell} (h : ∀ a, a < n → ∀ q ∈ ra_dep.getD k [], q.1 = K a → aSm vs q (σ a) (σ' a)) (hb : rTflrlllrl K n k (vs.take j) σ) : rTflrlllrl K n k (vs.take j) σ' := by
  unfold rTflrlllrl at hb ⊢
  cases c : Nat.beq k 135 with
  | true =>
    rw [c] at hb
    obtain rfl := Nat.eq_of_beq_eq_true c
    exact rs_135 h hb
  | false =>
    rw [c] at hb
    exact hb.elim
theorem rTflrlllrr_st {K : Nat → Nat} {n : Nat} {k : Nat} {vs : List jv} {j : Nat} {σ σ' : Nat → jcell} (h : ∀ a, a < n → ∀ q ∈ ra_dep.getD k [], q.1 = K a → aSm vs q (σ a) (σ' a)) (hb : rTflrlllrr K n k (vs.take j) σ) : rTflrlllrr K n k (vs.take j) σ' := by
  unfold rTflrlllrr at hb ⊢
  cases c : Nat.beq k 136 with
  | true =>
    rw [c] at hb
    obtain rfl := Nat.eq_of_beq_eq_true c
    exact rs_136 h hb
  | false =>
    rw [c] at hb
    exact hb.elim
theorem rTflrlllr_st {K : Nat → Nat} {n : Nat} {k : Nat} {vs : List jv} {j : Nat} {σ σ' : Nat → jcell} (h : ∀ a, a < n → ∀ q ∈ ra_dep.getD k [], q.1 = K a → aSm vs q (σ a) (σ' a)) (hb : rTflrlllr K n k (vs.take j) σ) : rTflrlllr K n k (vs.take j) σ' := by
  unfold rTflrlllr at hb ⊢
  cases c : Nat.ble k 135 with
  | true =>
    rw [c] at hb
    exact rTflrlllrl_st h hb
  | false =>
    rw [c] at hb
    exact rTflrlllrr_st h hb
theorem rTflrlll_st {K : Nat → Nat} {n : Nat} {k : Nat} {vs : List jv} {j : Nat} {σ σ' : Nat → jcell} (h : ∀ a, a < n → ∀ q ∈ ra_dep.getD k [], q.1 = K a → aSm vs q (σ a) (σ' a)) (hb : rTflrlll K n k (vs.take j) σ) : rTflrlll K n k (vs.take j) σ' := by
  unfold rTflrlll at hb ⊢
  cases c : Nat.ble k 134 with
  | true =>
    rw [c] at hb
    exact rTflrllll_st h hb
  | false =>
    rw [c] at hb
    exact rTflrlllr_st h hb
theorem rTflrllrll_st {K : Nat → Nat} {n : Nat} {k : Nat} {vs : List jv} {j : Nat} {σ σ' : Nat → jcell} (h : ∀ a, a < n → ∀ q ∈ ra_dep.getD k [], q.1 = K a → aSm vs q (σ a) (σ' a)) (hb : rTflrllrll K n k (vs.take j) σ) : rTflrllrll K n k (vs.take j) σ' := by
  unfold rTflrllrll at hb ⊢
  cases c : Nat.beq k 137 with
  | true =>
    rw [c] at hb
    obtain rfl := Nat.eq_of_beq_eq_true c
    exact rs_137 h hb
  | false =>
    rw [c] at hb
    exact hb.elim
theorem rTflrllrlr_st {K : Nat → Nat} {n : Nat} {k : Nat} {vs : List jv} {j : Nat} {σ σ' : Nat → jcell} (h : ∀ a, a < n → ∀ q ∈ ra_dep.getD k [], q.1 = K a → aSm vs q (σ a) (σ' a)) (hb : rTflrllrlr K n k (vs.take j) σ) : rTflrllrlr K n k (vs.take j) σ' := by
  unfold rTflrllrlr at hb ⊢
  cases c : Nat.beq k 138 with
  | true =>
    rw [c] at hb
    obtain rfl := Nat.eq_of_beq_eq_true c
    exact rs_138 h hb
  | false =>
    rw [c] at hb
    exact hb.elim
theorem rTflrllrl_st {K : Nat → Nat} {n : Nat} {k : Nat} {vs : List jv} {j : Nat} {σ σ' : Nat → jcell} (h : ∀ a, a < n → ∀ q ∈ ra_dep.getD k [], q.1 = K a → aSm vs q (σ a) (σ' a)) (hb : rTflrllrl K n k (vs.take j) σ) : rTflrllrl K n k (vs.take j) σ' := by
  unfold rTflrllrl at hb ⊢
  cases c : Nat.ble k 137 with
  | true =>
    rw [c] at hb
    exact rTflrllrll_st h hb
  | false =>
    rw [c] at hb
    exact rTflrllrlr_st h hb
theorem rTflrllrrl_st {K : Nat → Nat} {n : Nat} {k : Nat} {vs : List jv} {j : Nat} {σ σ' : Nat → jcell} (h : ∀ a, a < n → ∀ q ∈ ra_dep.getD k [], q.1 = K a → aSm vs q (σ a) (σ' a)) (hb : rTflrllrrl K n k (vs.take j) σ) : rTflrllrrl K n k (vs.take j) σ' := by
  unfold rTflrllrrl at hb ⊢
  cases c : Nat.beq k 139 with
  | true =>
    rw [c] at hb
    obtain rfl := Nat.eq_of_beq_eq_true c
    exact rs_139 h hb
  | false =>
    rw [c] at hb
    exact hb.elim
theorem rTflrllrrr_st {K : Nat → Nat} {n : Nat} {k : Nat} {vs : List jv} {j : Nat} {σ σ' : Nat → jcell} (h : ∀ a, a < n → ∀ q ∈ ra_dep.getD k [], q.1 = K a → aSm vs q (σ a) (σ' a)) (hb : rTflrllrrr K n k (vs.take j) σ) : rTflrllrrr K n k (vs.take j) σ' := by
  unfold rTflrllrrr at hb ⊢
  cases c : Nat.beq k 140 with
  | true =>
    rw [c] at hb
    obtain rfl := Nat.eq_of_beq_eq_true c
    exact rs_140 h hb
  | false =>
    rw [c] at hb
    exact hb.elim
theorem rTflrllrr_st {K : Nat → Nat} {n : Nat} {k : Nat} {vs : List jv} {j : Nat} {σ σ' : Nat → jcell} (h : ∀ a, a < n → ∀ q ∈ ra_dep.getD k [], q.1 = K a → aSm vs q (σ a) (σ' a)) (hb : rTflrllrr K n k (vs.take j) σ) : rTflrllrr K n k (vs.take j) σ' := by
  unfold rTflrllrr at hb ⊢
  cases c : Nat.ble k 139 with
  | true =>
    rw [c] at hb
    exact rTflrllrrl_st h hb
  | false =>
    rw [c] at hb
    exact rTflrllrrr_st h hb
theorem rTflrllr_st {K : Nat → Nat} {n : Nat} {k : Nat} {vs : List jv} {j : Nat} {σ σ' : Nat → jcell} (h : ∀ a, a < n → ∀ q ∈ ra_dep.getD k [], q.1 = K a → aSm vs q (σ a) (σ' a)) (hb : rTflrllr K n k (vs.take j) σ) : rTflrllr K n k (vs.take j) σ' := by
  unfold rTflrllr at hb ⊢
  cases c : Nat.ble k 138 with
  | true =>
    rw [c] at hb
    exact rTflrllrl_st h hb
  | false =>
    rw [c] at hb
    exact rTflrllrr_st h hb
theorem rTflrll_st {K : Nat → Nat} {n : Nat} {k : Nat} {vs : List jv} {j : Nat} {σ σ' : Nat → jcell} (h : ∀ a, a < n → ∀ q ∈ ra_dep.getD k [], q.1 = K a → aSm vs q (σ a) (σ' a)) (hb : rTflrll K n k (vs.take j) σ) : rTflrll K n k (vs.take j) σ' := by
  unfold rTflrll at hb ⊢
  cases c : Nat.ble k 136 with
  | true =>
    rw [c] at hb
    exact rTflrlll_st h hb
  | false =>
    rw [c] at hb
    exact rTflrllr_st h hb
theorem rTflrlrlll_st {K : Nat → Nat} {n : Nat} {k : Nat} {vs : List jv} {j : Nat} {σ σ' : Nat → jcell} (h : ∀ a, a < n → ∀ q ∈ ra_dep.getD k [], q.1 = K a → aSm vs q (σ a) (σ' a)) (hb : rTflrlrlll K n k (vs.take j) σ) : rTflrlrlll K n k (vs.take j) σ' := by
  unfold rTflrlrlll at hb ⊢
  cases c : Nat.beq k 141 with
  | true =>
    rw [c] at hb
    obtain rfl := Nat.eq_of_beq_eq_true c
    exact rs_141 h hb
  | false =>
    rw [c] at hb
    exact hb.elim
theorem rTflrlrllr_st {K : Nat → Nat} {n : Nat} {k : Nat} {vs : List jv} {j : Nat} {σ σ' : Nat → jcell} (h : ∀ a, a < n → ∀ q ∈ ra_dep.getD k [], q.1 = K a → aSm vs q (σ a) (σ' a)) (hb : rTflrlrllr K n k (vs.take j) σ) : rTflrlrllr K n k (vs.take j) σ' := by
  unfold rTflrlrllr at hb ⊢
  cases c : Nat.beq k 142 with
  | true =>
    rw [c] at hb
    obtain rfl := Nat.eq_of_beq_eq_true c
    exact rs_142 h hb
  | false =>
    rw [c] at hb
    exact hb.elim
theorem rTflrlrll_st {K : Nat → Nat} {n : Nat} {k : Nat} {vs : List jv} {j : Nat} {σ σ' : Nat → jcell} (h : ∀ a, a < n → ∀ q ∈ ra_dep.getD k [], q.1 = K a → aSm vs q (σ a) (σ' a)) (hb : rTflrlrll K n k (vs.take j) σ) : rTflrlrll K n k (vs.take j) σ' := by
  unfold rTflrlrll at hb ⊢
  cases c : Nat.ble k 141 with
  | true =>
    rw [c] at hb
    exact rTflrlrlll_st h hb
  | false =>
    rw [c] at hb
    exact rTflrlrllr_st h hb
theorem rTflrlrlrl_st {K : Nat → Nat} {n : Nat} {k : Nat} {vs : List jv} {j : Nat} {σ σ' : Nat → jcell} (h : ∀ a, a < n → ∀ q ∈ ra_dep.getD k [], q.1 = K a → aSm vs q (σ a) (σ' a)) (hb : rTflrlrlrl K n k (vs.take j) σ) : rTflrlrlrl K n k (vs.take j) σ' := by
  unfold rTflrlrlrl at hb ⊢
  cases c : Nat.beq k 143 with
  | true =>
    rw [c] at hb
    obtain rfl := Nat.eq_of_beq_eq_true c
    exact rs_143 h hb
  | false =>
    rw [c] at hb
    exact hb.elim
theorem rTflrlrlrr_st {K : Nat → Nat} {n : Nat} {k : Nat} {vs : List jv} {j : Nat} {σ σ' : Nat → jcell} (h : ∀ a, a < n → ∀ q ∈ ra_dep.getD k [], q.1 = K a → aSm vs q (σ a) (σ' a)) (hb : rTflrlrlrr K n k (vs.take j) σ) : rTflrlrlrr K n k (vs.take j) σ' := by
  unfold rTflrlrlrr at hb ⊢
  cases c : Nat.beq k 144 with
  | true =>
    rw [c] at hb
    obtain rfl := Nat.eq_of_beq_eq_true c
    exact rs_144 h hb
  | false =>
    rw [c] at hb
    exact hb.elim
theorem rTflrlrlr_st {K : Nat → Nat} {n : Nat} {k : Nat} {vs : List jv} {j : Nat} {σ σ' : Nat → jcell} (h : ∀ a, a < n → ∀ q ∈ ra_dep.getD k [], q.1 = K a → aSm vs q (σ a) (σ' a)) (hb : rTflrlrlr K n k (vs.take j) σ) : rTflrlrlr K n k (vs.take j) σ' := by
  unfold rTflrlrlr at hb ⊢
  cases c : Nat.ble k 143 with
  | true =>
    rw [c] at hb
    exact rTflrlrlrl_st h hb
  | false =>
    rw [c] at hb
    exact rTflrlrlrr_st h hb
theorem rTflrlrl_st {K : Nat → Nat} {n : Nat} {k : Nat} {vs : List jv} {j : Nat} {σ σ' : Nat → jcell} (h : ∀ a, a < n → ∀ q ∈ ra_dep.getD k [], q.1 = K a → aSm vs q (σ a) (σ' a)) (hb : rTflrlrl K n k (vs.take j) σ) : rTflrlrl K n k (vs.take j) σ' := by
  unfold rTflrlrl at hb ⊢
  cases c : Nat.ble k 142 with
  | true =>
    rw [c] at hb
    exact rTflrlrll_st h hb
  | false =>
    rw [c] at hb
    exact rTflrlrlr_st h hb
theorem rTflrlrrll_st {K : Nat → Nat} {n : Nat} {k : Nat} {vs : List jv} {j : Nat} {σ σ' : Nat → jcell} (h : ∀ a, a < n → ∀ q ∈ ra_dep.getD k [], q.1 = K a → aSm vs q (σ a) (σ' a)) (hb : rTflrlrrll K n k (vs.take j) σ) : rTflrlrrll K n k (vs.take j) σ' := by
  unfold rTflrlrrll at hb ⊢
  cases c : Nat.beq k 145 with
  | true =>
    rw [c] at hb
    obtain rfl := Nat.eq_of_beq_eq_true c
    exact rs_145 h hb
  | false =>
    rw [c] at hb
    exact hb.elim
theorem rTflrlrrlr_st {K : Nat → Nat} {n : Nat} {k : Nat} {vs : List jv} {j : Nat} {σ σ' : Nat → jcell} (h : ∀ a, a < n → ∀ q ∈ ra_dep.getD k [], q.1 = K a → aSm vs q (σ a) (σ' a)) (hb : rTflrlrrlr K n k (vs.take j) σ) : rTflrlrrlr K n k (vs.take j) σ' := by
  unfold rTflrlrrlr at hb ⊢
  cases c : Nat.beq k 146 with
  | true =>
    rw [c] at hb
    obtain rfl := Nat.eq_of_beq_eq_true c
    exact rs_146 h hb
  | false =>
    rw [c] at hb
    exact hb.elim
theorem rTflrlrrl_st {K : Nat → Nat} {n : Nat} {k : Nat} {vs : List jv} {j : Nat} {σ σ' : Nat → jcell} (h : ∀ a, a < n → ∀ q ∈ ra_dep.getD k [], q.1 = K a → aSm vs q (σ a) (σ' a)) (hb : rTflrlrrl K n k (vs.take j) σ) : rTflrlrrl K n k (vs.take j) σ' := by
  unfold rTflrlrrl at hb ⊢
  cases c : Nat.ble k 145 with
  | true =>
    rw [c] at hb
    exact rTflrlrrll_st h hb
  | false =>
    rw [c] at hb
    exact rTflrlrrlr_st h hb
theorem rTflrlrrrl_st {K : Nat → Nat} {n : Nat} {k : Nat} {vs : List jv} {j : Nat} {σ σ' : Nat → jcell} (h : ∀ a, a < n → ∀ q ∈ ra_dep.getD k [], q.1 = K a → aSm vs q (σ a) (σ' a)) (hb : rTflrlrrrl K n k (vs.take j) σ) : rTflrlrrrl K n k (vs.take j) σ' := by
  unfold rTflrlrrrl at hb ⊢
  cases c : Nat.beq k 147 with
  | true =>
    rw [c] at hb
    obtain rfl := Nat.eq_of_beq_eq_true c
    exact rs_147 h hb
  | false =>
    rw [c] at hb
    exact hb.elim
theorem rTflrlrrrr_st {K : Nat → Nat} {n : Nat} {k : Nat} {vs : List jv} {j : Nat} {σ σ' : Nat → jcell} (h : ∀ a, a < n → ∀ q ∈ ra_dep.getD k [], q.1 = K a → aSm vs q (σ a) (σ' a)) (hb : rTflrlrrrr K n k (vs.take j) σ) : rTflrlrrrr K n k (vs.take j) σ' := by
  unfold rTflrlrrrr at hb ⊢
  cases c : Nat.beq k 148 with
  | true =>
    rw [c] at hb
    obtain rfl := Nat.eq_of_beq_eq_true c
    exact rs_148 h hb
  | false =>
    rw [c] at hb
    exact hb.elim
theorem rTflrlrrr_st {K : Nat → Nat} {n : Nat} {k : Nat} {vs : List jv} {j : Nat} {σ σ' : Nat → jcell} (h : ∀ a, a < n → ∀ q ∈ ra_dep.getD k [], q.1 = K a → aSm vs q (σ a) (σ' a)) (hb : rTflrlrrr K n k (vs.take j) σ) : rTflrlrrr K n k (vs.take j) σ' := by
  unfold rTflrlrrr at hb ⊢
  cases c : Nat.ble k 147 with
  | true =>
    rw [c] at hb
    exact rTflrlrrrl_st h hb
  | false =>
    rw [c] at hb
    exact rTflrlrrrr_st h hb
theorem rTflrlrr_st {K : Nat → Nat} {n : Nat} {k : Nat} {vs : List jv} {j : Nat} {σ σ' : Nat → jcell} (h : ∀ a, a < n → ∀ q ∈ ra_dep.getD k [], q.1 = K a → aSm vs q (σ a) (σ' a)) (hb : rTflrlrr K n k (vs.take j) σ) : rTflrlrr K n k (vs.take j) σ' := by
  unfold rTflrlrr at hb ⊢
  cases c : Nat.ble k 146 with
  | true =>
    rw [c] at hb
    exact rTflrlrrl_st h hb
  | false =>
    rw [c] at hb
    exact rTflrlrrr_st h hb
theorem rTflrlr_st {K : Nat → Nat} {n : Nat} {k : Nat} {vs : List jv} {j : Nat} {σ σ' : Nat → jcell} (h : ∀ a, a < n → ∀ q ∈ ra_dep.getD k [], q.1 = K a → aSm vs q (σ a) (σ' a)) (hb : rTflrlr K n k (vs.take j) σ) : rTflrlr K n k (vs.take j) σ' := by
  unfold rTflrlr at hb ⊢
  cases c : Nat.ble k 144 with
  | true =>
    rw [c] at hb
    exact rTflrlrl_st h hb
  | false =>
    rw [c] at hb
    exact rTflrlrr_st h hb
theorem rTflrl_st {K : Nat → Nat} {n : Nat} {k : Nat} {vs : List jv} {j : Nat} {σ σ' : Nat → jcell} (h : ∀ a, a < n → ∀ q ∈ ra_dep.getD k [], q.1 = K a → aSm vs q (σ a) (σ' a)) (hb : rTflrl K n k (vs.take j) σ) : rTflrl K n k (vs.take j) σ' := by
  unfold rTflrl at hb ⊢
  cases c : Nat.ble k 140 with
  | true =>
    rw [c] at hb
    exact rTflrll_st h hb
  | false =>
    rw [c] at hb
    exact rTflrlr_st h hb
theorem rTflrrllll_st {K : Nat → Nat} {n : Nat} {k : Nat} {vs : List jv} {j : Nat} {σ σ' : Nat → jcell} (h : ∀ a, a < n → ∀ q ∈ ra_dep.getD k [], q.1 = K a → aSm vs q (σ a) (σ' a)) (hb : rTflrrllll K n k (vs.take j) σ) : rTflrrllll K n k (vs.take j) σ' := by
  unfold rTflrrllll at hb ⊢
  cases c : Nat.beq k 149 with
  | true =>
    rw [c] at hb
    obtain rfl := Nat.eq_of_beq_eq_true c
    exact rs_149 h hb
  | false =>
    rw [c] at hb
    exact hb.elim
theorem rTflrrlllr_st {K : Nat → Nat} {n : Nat} {k : Nat} {vs : List jv} {j : Nat} {σ σ' : Nat → jcell} (h : ∀ a, a < n → ∀ q ∈ ra_dep.getD k [], q.1 = K a → aSm vs q (σ a) (σ' a)) (hb : rTflrrlllr K n k (vs.take j) σ) : rTflrrlllr K n k (vs.take j) σ' := by
  unfold rTflrrlllr at hb ⊢
  cases c : Nat.beq k 150 with
  | true =>
    rw [c] at hb
    obtain rfl := Nat.eq_of_beq_eq_true c
    exact rs_150 h hb
  | false =>
    rw [c] at hb
    exact hb.elim
theorem rTflrrlll_st {K : Nat → Nat} {n : Nat} {k : Nat} {vs : List jv} {j : Nat} {σ σ' : Nat → jcell} (h : ∀ a, a < n → ∀ q ∈ ra_dep.getD k [], q.1 = K a → aSm vs q (σ a) (σ' a)) (hb : rTflrrlll K n k (vs.take j) σ) : rTflrrlll K n k (vs.take j) σ' := by
  unfold rTflrrlll at hb ⊢
  cases c : Nat.ble k 149 with
  | true =>
    rw [c] at hb
    exact rTflrrllll_st h hb
  | false =>
    rw [c] at hb
    exact rTflrrlllr_st h hb
theorem rTflrrllrl_st {K : Nat → Nat} {n : Nat} {k : Nat} {vs : List jv} {j : Nat} {σ σ' : Nat → jcell} (h : ∀ a, a < n → ∀ q ∈ ra_dep.getD k [], q.1 = K a → aSm vs q (σ a) (σ' a)) (hb : rTflrrllrl K n k (vs.take j) σ) : rTflrrllrl K n k (vs.take j) σ' := by
  unfold rTflrrllrl at hb ⊢
  cases c : Nat.beq k 151 with
  | true =>
    rw [c] at hb
    obtain rfl := Nat.eq_of_beq_eq_true c
    exact rs_151 h hb
  | false =>
    rw [c] at hb
    exact hb.elim
theorem rTflrrllrr_st {K : Nat → Nat} {n : Nat} {k : Nat} {vs : List jv} {j : Nat} {σ σ' : Nat → jcell} (h : ∀ a, a < n → ∀ q ∈ ra_dep.getD k [], q.1 = K a → aSm vs q (σ a) (σ' a)) (hb : rTflrrllrr K n k (vs.take j) σ) : rTflrrllrr K n k (vs.take j) σ' := by
  unfold rTflrrllrr at hb ⊢
  cases c : Nat.beq k 152 with
  | true =>
    rw [c] at hb
    obtain rfl := Nat.eq_of_beq_eq_true c
    exact rs_152 h hb
  | false =>
    rw [c] at hb
    exact hb.elim
theorem rTflrrllr_st {K : Nat → Nat} {n : Nat} {k : Nat} {vs : List jv} {j : Nat} {σ σ' : Nat → jcell} (h : ∀ a, a < n → ∀ q ∈ ra_dep.getD k [], q.1 = K a → aSm vs q (σ a) (σ' a)) (hb : rTflrrllr K n k (vs.take j) σ) : rTflrrllr K n k (vs.take j) σ' := by
  unfold rTflrrllr at hb ⊢
  cases c : Nat.ble k 151 with
  | true =>
    rw [c] at hb
    exact rTflrrllrl_st h hb
  | false =>
    rw [c] at hb
    exact rTflrrllrr_st h hb
theorem rTflrrll_st {K : Nat → Nat} {n : Nat} {k : Nat} {vs : List jv} {j : Nat} {σ σ' : Nat → jcell} (h : ∀ a, a < n → ∀ q ∈ ra_dep.getD k [], q.1 = K a → aSm vs q (σ a) (σ' a)) (hb : rTflrrll K n k (vs.take j) σ) : rTflrrll K n k (vs.take j) σ' := by
  unfold rTflrrll at hb ⊢
  cases c : Nat.ble k 150 with
  | true =>
    rw [c] at hb
    exact rTflrrlll_st h hb
  | false =>
    rw [c] at hb
    exact rTflrrllr_st h hb
theorem rTflrrlrll_st {K : Nat → Nat} {n : Nat} {k : Nat} {vs : List jv} {j : Nat} {σ σ' : Nat → jcell} (h : ∀ a, a < n → ∀ q ∈ ra_dep.getD k [], q.1 = K a → aSm vs q (σ a) (σ' a)) (hb : rTflrrlrll K n k (vs.take j) σ) : rTflrrlrll K n k (vs.take j) σ' := by
  unfold rTflrrlrll at hb ⊢
  cases c : Nat.beq k 153 with
  | true =>
    rw [c] at hb
    obtain rfl := Nat.eq_of_beq_eq_true c
    exact rs_153 h hb
  | false =>
    rw [c] at hb
    exact hb.elim
theorem rTflrrlrlr_st {K : Nat → Nat} {n : Nat} {k : Nat} {vs : List jv} {j : Nat} {σ σ' : Nat → jcell} (h : ∀ a, a < n → ∀ q ∈ ra_dep.getD k [], q.1 = K a → aSm vs q (σ a) (σ' a)) (hb : rTflrrlrlr K n k (vs.take j) σ) : rTflrrlrlr K n k (vs.take j) σ' := by
  unfold rTflrrlrlr at hb ⊢
  cases c : Nat.beq k 154 with
  | true =>
    rw [c] at hb
    obtain rfl := Nat.eq_of_beq_eq_true c
    exact rs_154 h hb
  | false =>
    rw [c] at hb
    exact hb.elim
theorem rTflrrlrl_st {K : Nat → Nat} {n : Nat} {k : Nat} {vs : List jv} {j : Nat} {σ σ' : Nat → jcell} (h : ∀ a, a < n → ∀ q ∈ ra_dep.getD k [], q.1 = K a → aSm vs q (σ a) (σ' a)) (hb : rTflrrlrl K n k (vs.take j) σ) : rTflrrlrl K n k (vs.take j) σ' := by
  unfold rTflrrlrl at hb ⊢
  cases c : Nat.ble k 153 with
  | true =>
    rw [c] at hb
    exact rTflrrlrll_st h hb
  | false =>
    rw [c] at hb
    exact rTflrrlrlr_st h hb
theorem rTflrrlrrl_st {K : Nat → Nat} {n : Nat} {k : Nat} {vs : List jv} {j : Nat} {σ σ' : Nat → jcell} (h : ∀ a, a < n → ∀ q ∈ ra_dep.getD k [], q.1 = K a → aSm vs q (σ a) (σ' a)) (hb : rTflrrlrrl K n k (vs.take j) σ) : rTflrrlrrl K n k (vs.take j) σ' := by
  unfold rTflrrlrrl at hb ⊢
  cases c : Nat.beq k 155 with
  | true =>
    rw [c] at hb
    obtain rfl := Nat.eq_of_beq_eq_true c
    exact rs_155 h hb
  | false =>
    rw [c] at hb
    exact hb.elim
theorem rTflrrlrrr_st {K : Nat → Nat} {n : Nat} {k : Nat} {vs : List jv} {j : Nat} {σ σ' : Nat → jcell} (h : ∀ a, a < n → ∀ q ∈ ra_dep.getD k [], q.1 = K a → aSm vs q (σ a) (σ' a)) (hb : rTflrrlrrr K n k (vs.take j) σ) : rTflrrlrrr K n k (vs.take j) σ' := by
  unfold rTflrrlrrr at hb ⊢
  cases c : Nat.beq k 156 with
  | true =>
    rw [c] at hb
    obtain rfl := Nat.eq_of_beq_eq_true c
    exact rs_156 h hb
  | false =>
    rw [c] at hb
    exact hb.elim
theorem rTflrrlrr_st {K : Nat → Nat} {n : Nat} {k : Nat} {vs : List jv} {j : Nat} {σ σ' : Nat → jcell} (h : ∀ a, a < n → ∀ q ∈ ra_dep.getD k [], q.1 = K a → aSm vs q (σ a) (σ' a)) (hb : rTflrrlrr K n k (vs.take j) σ) : rTflrrlrr K n k (vs.take j) σ' := by
  unfold rTflrrlrr at hb ⊢
  cases c : Nat.ble k 155 with
  | true =>
    rw [c] at hb
    exact rTflrrlrrl_st h hb
  | false =>
    rw [c] at hb
    exact rTflrrlrrr_st h hb
theorem rTflrrlr_st {K : Nat → Nat} {n : Nat} {k : Nat} {vs : List jv} {j : Nat} {σ σ' : Nat → jcell} (h : ∀ a, a < n → ∀ q ∈ ra_dep.getD k [], q.1 = K a → aSm vs q (σ a) (σ' a)) (hb : rTflrrlr K n k (vs.take j) σ) : rTflrrlr K n k (vs.take j) σ' := by
  unfold rTflrrlr at hb ⊢
  cases c : Nat.ble k 154 with
  | true =>
    rw [c] at hb
    exact rTflrrlrl_st h hb
  | false =>
    rw [c] at hb
    exact rTflrrlrr_st h hb
theorem rTflrrl_st {K : Nat → Nat} {n : Nat} {k : Nat} {vs : List jv} {j : Nat} {σ σ' : Nat → jcell} (h : ∀ a, a < n → ∀ q ∈ ra_dep.getD k [], q.1 = K a → aSm vs q (σ a) (σ' a)) (hb : rTflrrl K n k (vs.take j) σ) : rTflrrl K n k (vs.take j) σ' := by
  unfold rTflrrl at hb ⊢
  cases c : Nat.ble k 152 with
  | true =>
    rw [c] at hb
    exact rTflrrll_st h hb
  | false =>
    rw [c] at hb
    exact rTflrrlr_st h hb
theorem rTflrrrlll_st {K : Nat → Nat} {n : Nat} {k : Nat} {vs : List jv} {j : Nat} {σ σ' : Nat → jcell} (h : ∀ a, a < n → ∀ q ∈ ra_dep.getD k [], q.1 = K a → aSm vs q (σ a) (σ' a)) (hb : rTflrrrlll K n k (vs.take j) σ) : rTflrrrlll K n k (vs.take j) σ' := by
  unfold rTflrrrlll at hb ⊢
  cases c : Nat.beq k 157 with
  | true =>
    rw [c] at hb
    obtain rfl := Nat.eq_of_beq_eq_true c
    exact rs_157 h hb
  | false =>
    rw [c] at hb
    exact hb.elim
theorem rTflrrrllr_st {K : Nat → Nat} {n : Nat} {k : Nat} {vs : List jv} {j : Nat} {σ σ' : Nat → jcell} (h : ∀ a, a < n → ∀ q ∈ ra_dep.getD k [], q.1 = K a → aSm vs q (σ a) (σ' a)) (hb : rTflrrrllr K n k (vs.take j) σ) : rTflrrrllr K n k (vs.take j) σ' := by
  unfold rTflrrrllr at hb ⊢
  cases c : Nat.beq k 160 with
  | true =>
    rw [c] at hb
    obtain rfl := Nat.eq_of_beq_eq_true c
    exact rs_160 h hb
  | false =>
    rw [c] at hb
    exact hb.elim
theorem rTflrrrll_st {K : Nat → Nat} {n : Nat} {k : Nat} {vs : List jv} {j : Nat} {σ σ' : Nat → jcell} (h : ∀ a, a < n → ∀ q ∈ ra_dep.getD k [], q.1 = K a → aSm vs q (σ a) (σ' a)) (hb : rTflrrrll K n k (vs.take j) σ) : rTflrrrll K n k (vs.take j) σ' := by
  unfold rTflrrrll at hb ⊢
  cases c : Nat.ble k 157 with
  | true =>
    rw [c] at hb
    exact rTflrrrlll_st h hb
  | false =>
    rw [c] at hb
    exact rTflrrrllr_st h hb
theorem rTflrrrlrl_st {K : Nat → Nat} {n : Nat} {k : Nat} {vs : List jv} {j : Nat} {σ σ' : Nat → jcell} (h : ∀ a, a < n → ∀ q ∈ ra_dep.getD k [], q.1 = K a → aSm vs q (σ a) (σ' a)) (hb : rTflrrrlrl K n k (vs.take j) σ) : rTflrrrlrl K n k (vs.take j) σ' := by
  unfold rTflrrrlrl at hb ⊢
  cases c : Nat.beq k 161 with
  | true =>
    rw [c] at hb
    obtain rfl := Nat.eq_of_beq_eq_true c
    exact rs_161 h hb
  | false =>
    rw [c] at hb
    exact hb.elim
theorem rTflrrrlrr_st {K : Nat → Nat} {n : Nat} {k : Nat} {vs : List jv} {j : Nat} {σ σ' : Nat → jcell} (h : ∀ a, a < n → ∀ q ∈ ra_dep.getD k [], q.1 = K a → aSm vs q (σ a) (σ' a)) (hb : rTflrrrlrr K n k (vs.take j) σ) : rTflrrrlrr K n k (vs.take j) σ' := by
  unfold rTflrrrlrr at hb ⊢
  cases c : Nat.beq k 162 with
  | true =>
    rw [c] at hb
    obtain rfl := Nat.eq_of_beq_eq_true c
    exact rs_162 h hb
  | false =>
    rw [c] at hb
    exact hb.elim
theorem rTflrrrlr_st {K : Nat → Nat} {n : Nat} {k : Nat} {vs : List jv} {j : Nat} {σ σ' : Nat → jcell} (h : ∀ a, a < n → ∀ q ∈ ra_dep.getD k [], q.1 = K a → aSm vs q (σ a) (σ' a)) (hb : rTflrrrlr K n k (vs.take j) σ) : rTflrrrlr K n k (vs.take j) σ' := by
  unfold rTflrrrlr at hb ⊢
  cases c : Nat.ble k 161 with
  | true =>
    rw [c] at hb
    exact rTflrrrlrl_st h hb
  | false =>
    rw [c] at hb
    exact rTflrrrlrr_st h hb
theorem rTflrrrl_st {K : Nat → Nat} {n : Nat} {k : Nat} {vs : List jv} {j : Nat} {σ σ' : Nat → jcell} (h : ∀ a, a < n → ∀ q ∈ ra_dep.getD k [], q.1 = K a → aSm vs q (σ a) (σ' a)) (hb : rTflrrrl K n k (vs.take j) σ) : rTflrrrl K n k (vs.take j) σ' := by
  unfold rTflrrrl at hb ⊢
  cases c : Nat.ble k 160 with
  | true =>
    rw [c] at hb
    exact rTflrrrll_st h hb
  | false =>
    rw [c] at hb
    exact rTflrrrlr_st h hb
theorem rTflrrrrll_st {K : Nat → Nat} {n : Nat} {k : Nat} {vs : List jv} {j : Nat} {σ σ' : Nat → jcell} (h : ∀ a, a < n → ∀ q ∈ ra_dep.getD k [], q.1 = K a → aSm vs q (σ a) (σ' a)) (hb : rTflrrrrll K n k (vs.take j) σ) : rTflrrrrll K n k (vs.take j) σ' := by
  unfold rTflrrrrll at hb ⊢
  cases c : Nat.beq k 163 with
  | true =>
    rw [c] at hb
    obtain rfl := Nat.eq_of_beq_eq_true c
    exact rs_163 h hb
  | false =>
    rw [c] at hb
    exact hb.elim
theorem rTflrrrrlr_st {K : Nat → Nat} {n : Nat} {k : Nat} {vs : List jv} {j : Nat} {σ σ' : Nat → jcell} (h : ∀ a, a < n → ∀ q ∈ ra_dep.getD k [], q.1 = K a → aSm vs q (σ a) (σ' a)) (hb : rTflrrrrlr K n k (vs.take j) σ) : rTflrrrrlr K n k (vs.take j) σ' := by
  unfold rTflrrrrlr at hb ⊢
  cases c : Nat.beq k 164 with
  | true =>
    rw [c] at hb
    obtain rfl := Nat.eq_of_beq_eq_true c
    exact rs_164 h hb
  | false =>
    rw [c] at hb
    exact hb.elim
theorem rTflrrrrl_st {K : Nat → Nat} {n : Nat} {k : Nat} {vs : List jv} {j : Nat} {σ σ' : Nat → jcell} (h : ∀ a, a < n → ∀ q ∈ ra_dep.getD k [], q.1 = K a → aSm vs q (σ a) (σ' a)) (hb : rTflrrrrl K n k (vs.take j) σ) : rTflrrrrl K n k (vs.take j) σ' := by
  unfold rTflrrrrl at hb ⊢
  cases c : Nat.ble k 163 with
  | true =>
    rw [c] at hb
    exact rTflrrrrll_st h hb
  | false =>
    rw [c] at hb
    exact rTflrrrrlr_st h hb
theorem rTflrrrrrl_st {K : Nat → Nat} {n : Nat} {k : Nat} {vs : List jv} {j : Nat} {σ σ' : Nat → jcell} (h : ∀ a, a < n → ∀ q ∈ ra_dep.getD k [], q.1 = K a → aSm vs q (σ a) (σ' a)) (hb : rTflrrrrrl K n k (vs.take j) σ) : rTflrrrrrl K n k (vs.take j) σ' := by
  unfold rTflrrrrrl at hb ⊢
  cases c : Nat.beq k 167 with
  | true =>
    rw [c] at hb
    obtain rfl := Nat.eq_of_beq_eq_true c
    exact rs_167 h hb
  | false =>
    rw [c] at hb
    exact hb.elim
theorem rTflrrrrrr_st {K : Nat → Nat} {n : Nat} {k : Nat} {vs : List jv} {j : Nat} {σ σ' : Nat → jcell} (h : ∀ a, a < n → ∀ q ∈ ra_dep.getD k [], q.1 = K a → aSm vs q (σ a) (σ' a)) (hb : rTflrrrrrr K n k (vs.take j) σ) : rTflrrrrrr K n k (vs.take j) σ' := by
  unfold rTflrrrrrr at hb ⊢
  cases c : Nat.beq k 168 with
  | true =>
    rw [c] at hb
    obtain rfl := Nat.eq_of_beq_eq_true c
    exact rs_168 h hb
  | false =>
    rw [c] at hb
    exact hb.elim
theorem rTflrrrrr_st {K : Nat → Nat} {n : Nat} {k : Nat} {vs : List jv} {j : Nat} {σ σ' : Nat → jcell} (h : ∀ a, a < n → ∀ q ∈ ra_dep.getD k [], q.1 = K a → aSm vs q (σ a) (σ' a)) (hb : rTflrrrrr K n k (vs.take j) σ) : rTflrrrrr K n k (vs.take j) σ' := by
  unfold rTflrrrrr at hb ⊢
  cases c : Nat.ble k 167 with
  | true =>
    rw [c] at hb
    exact rTflrrrrrl_st h hb
  | false =>
    rw [c] at hb
    exact rTflrrrrrr_st h hb
theorem rTflrrrr_st {K : Nat → Nat} {n : Nat} {k : Nat} {vs : List jv} {j : Nat} {σ σ' : Nat → jcell} (h : ∀ a, a < n → ∀ q ∈ ra_dep.getD k [], q.1 = K a → aSm vs q (σ a) (σ' a)) (hb : rTflrrrr K n k (vs.take j) σ) : rTflrrrr K n k (vs.take j) σ' := by
  unfold rTflrrrr at hb ⊢
  cases c : Nat.ble k 164 with
  | true =>
    rw [c] at hb
    exact rTflrrrrl_st h hb
  | false =>
    rw [c] at hb
    exact rTflrrrrr_st h hb
theorem rTflrrr_st {K : Nat → Nat} {n : Nat} {k : Nat} {vs : List jv} {j : Nat} {σ σ' : Nat → jcell} (h : ∀ a, a < n → ∀ q ∈ ra_dep.getD k [], q.1 = K a → aSm vs q (σ a) (σ' a)) (hb : rTflrrr K n k (vs.take j) σ) : rTflrrr K n k (vs.take j) σ' := by
  unfold rTflrrr at hb ⊢
  cases c : Nat.ble k 162 with
  | true =>
    rw [c] at hb
    exact rTflrrrl_st h hb
  | false =>
    rw [c] at hb
    exact rTflrrrr_st h hb
theorem rTflrr_st {K : Nat → Nat} {n : Nat} {k : Nat} {vs : List jv} {j : Nat} {σ σ' : Nat → jcell} (h : ∀ a, a < n → ∀ q ∈ ra_dep.getD k [], q.1 = K a → aSm vs q (σ a) (σ' a)) (hb : rTflrr K n k (vs.take j) σ) : rTflrr K n k (vs.take j) σ' := by
  unfold rTflrr at hb ⊢
  cases c : Nat.ble k 156 with
  | true =>
    rw [c] at hb
    exact rTflrrl_st h hb
  | false =>
    rw [c] at hb
    exact rTflrrr_st h hb
theorem rTflr_st {K : Nat → Nat} {n : Nat} {k : Nat} {vs : List jv} {j : Nat} {σ σ' : Nat → jcell} (h : ∀ a, a < n → ∀ q ∈ ra_dep.getD k [], q.1 = K a → aSm vs q (σ a) (σ' a)) (hb : rTflr K n k (vs.take j) σ) : rTflr K n k (vs.take j) σ' := by
  unfold rTflr at hb ⊢
  cases c : Nat.ble k 148 with
  | true =>
    rw [c] at hb
    exact rTflrl_st h hb
  | false =>
    rw [c] at hb
    exact rTflrr_st h hb
theorem rTfl_st {K : Nat → Nat} {n : Nat} {k : Nat} {vs : List jv} {j : Nat} {σ σ' : Nat → jcell} (h : ∀ a, a < n → ∀ q ∈ ra_dep.getD k [], q.1 = K a → aSm vs q (σ a) (σ' a)) (hb : rTfl K n k (vs.take j) σ) : rTfl K n k (vs.take j) σ' := by
  unfold rTfl at hb ⊢
  cases c : Nat.ble k 132 with
  | true =>
    rw [c] at hb
    exact rTfll_st h hb
  | false =>
    rw [c] at hb
    exact rTflr_st h hb
theorem rTfrllllll_st {K : Nat → Nat} {n : Nat} {k : Nat} {vs : List jv} {j : Nat} {σ σ' : Nat → jcell} (h : ∀ a, a < n → ∀ q ∈ ra_dep.getD k [], q.1 = K a → aSm vs q (σ a) (σ' a)) (hb : rTfrllllll K n k (vs.take j) σ) : rTfrllllll K n k (vs.take j) σ' := by
  unfold rTfrllllll at hb ⊢
  cases c : Nat.beq k 169 with
  | true =>
    rw [c] at hb
    obtain rfl := Nat.eq_of_beq_eq_true c
    exact rs_169 h hb
  | false =>
    rw [c] at hb
    exact hb.elim
theorem rTfrlllllr_st {K : Nat → Nat} {n : Nat} {k : Nat} {vs : List jv} {j : Nat} {σ σ' : Nat → jcell} (h : ∀ a, a < n → ∀ q ∈ ra_dep.getD k [], q.1 = K a → aSm vs q (σ a) (σ' a)) (hb : rTfrlllllr K n k (vs.take j) σ) : rTfrlllllr K n k (vs.take j) σ' := by
  unfold rTfrlllllr at hb ⊢
  cases c : Nat.beq k 170 with
  | true =>
    rw [c] at hb
    obtain rfl := Nat.eq_of_beq_eq_true c
    exact rs_170 h hb
  | false =>
    rw [c] at hb
    exact hb.elim
theorem rTfrlllll_st {K : Nat → Nat} {n : Nat} {k : Nat} {vs : List jv} {j : Nat} {σ σ' : Nat → jcell} (h : ∀ a, a < n → ∀ q ∈ ra_dep.getD k [], q.1 = K a → aSm vs q (σ a) (σ' a)) (hb : rTfrlllll K n k (vs.take j) σ) : rTfrlllll K n k (vs.take j) σ' := by
  unfold rTfrlllll at hb ⊢
  cases c : Nat.ble k 169 with
  | true =>
    rw [c] at hb
    exact rTfrllllll_st h hb
  | false =>
    rw [c] at hb
    exact rTfrlllllr_st h hb
theorem rTfrllllrl_st {K : Nat → Nat} {n : Nat} {k : Nat} {vs : List jv} {j : Nat} {σ σ' : Nat → jcell} (h : ∀ a, a < n → ∀ q ∈ ra_dep.getD k [], q.1 = K a → aSm vs q (σ a) (σ' a)) (hb : rTfrllllrl K n k (vs.take j) σ) : rTfrllllrl K n k (vs.take j) σ' := by
  unfold rTfrllllrl at hb ⊢
  cases c : Nat.beq k 171 with
  | true =>
    rw [c] at hb
    obtain rfl := Nat.eq_of_beq_eq_true c
    exact rs_171 h hb
  | false =>
    rw [c] at hb
    exact hb.elim
theorem rTfrllllrr_st {K : Nat → Nat} {n : Nat} {k : Nat} {vs : List jv} {j : Nat} {σ σ' : Nat → jcell} (h : ∀ a, a < n → ∀ q ∈ ra_dep.getD k [], q.1 = K a → aSm vs q (σ a) (σ' a)) (hb : rTfrllllrr K n k (vs.take j) σ) : rTfrllllrr K n k (vs.take j) σ' := by
  unfold rTfrllllrr at hb ⊢
  cases c : Nat.beq k 172 with
  | true =>
    rw [c] at hb
    obtain rfl := Nat.eq_of_beq_eq_true c
    exact rs_172 h hb
  | false =>
    rw [c] at hb
    exact hb.elim
theorem rTfrllllr_st {K : Nat → Nat} {n : Nat} {k : Nat} {vs : List jv} {j : Nat} {σ σ' : Nat → jcell} (h : ∀ a, a < n → ∀ q ∈ ra_dep.getD k [], q.1 = K a → aSm vs q (σ a) (σ' a)) (hb : rTfrllllr K n k (vs.take j) σ) : rTfrllllr K n k (vs.take j) σ' := by
  unfold rTfrllllr at hb ⊢
  cases c : Nat.ble k 171 with
  | true =>
    rw [c] at hb
    exact rTfrllllrl_st h hb
  | false =>
    rw [c] at hb
    exact rTfrllllrr_st h hb
theorem rTfrllll_st {K : Nat → Nat} {n : Nat} {k : Nat} {vs : List jv} {j : Nat} {σ σ' : Nat → jcell} (h : ∀ a, a < n → ∀ q ∈ ra_dep.getD k [], q.1 = K a → aSm vs q (σ a) (σ' a)) (hb : rTfrllll K n k (vs.take j) σ) : rTfrllll K n k (vs.take j) σ' := by
  unfold rTfrllll at hb ⊢
  cases c : Nat.ble k 170 with
  | true =>
    rw [c] at hb
    exact rTfrlllll_st h hb
  | false =>
    rw [c] at hb
    exact rTfrllllr_st h hb
theorem rTfrlllrll_st {K : Nat → Nat} {n : Nat} {k : Nat} {vs : List jv} {j : Nat} {σ σ' : Nat → jcell} (h : ∀ a, a < n → ∀ q ∈ ra_dep.getD k [], q.1 = K a → aSm vs q (σ a) (σ' a)) (hb : rTfrlllrll K n k (vs.take j) σ) : rTfrlllrll K n k (vs.take j) σ' := by
  unfold rTfrlllrll at hb ⊢
  cases c : Nat.beq k 173 with
  | true =>
    rw [c] at hb
    obtain rfl := Nat.eq_of_beq_eq_true c
    exact rs_173 h hb
  | false =>
    rw [c] at hb
    exact hb.elim
theorem rTfrlllrlr_st {K : Nat → Nat} {n : Nat} {k : Nat} {vs : List jv} {j : Nat} {σ σ' : Nat → jcell} (h : ∀ a, a < n → ∀ q ∈ ra_dep.getD k [], q.1 = K a → aSm vs q (σ a) (σ' a)) (hb : rTfrlllrlr K n k (vs.take j) σ) : rTfrlllrlr K n k (vs.take j) σ' := by
  unfold rTfrlllrlr at hb ⊢
  cases c : Nat.beq k 174 with
  | true =>
    rw [c] at hb
    obtain rfl := Nat.eq_of_beq_eq_true c
    exact rs_174 h hb
  | false =>
    rw [c] at hb
    exact hb.elim
theorem rTfrlllrl_st {K : Nat → Nat} {n : Nat} {k : Nat} {vs : List jv} {j : Nat} {σ σ' : Nat → jcell} (h : ∀ a, a < n → ∀ q ∈ ra_dep.getD k [], q.1 = K a → aSm vs q (σ a) (σ' a)) (hb : rTfrlllrl K n k (vs.take j) σ) : rTfrlllrl K n k (vs.take j) σ' := by
  unfold rTfrlllrl at hb ⊢
  cases c : Nat.ble k 173 with
  | true =>
    rw [c] at hb
    exact rTfrlllrll_st h hb
  | false =>
    rw [c] at hb
    exact rTfrlllrlr_st h hb
theorem rTfrlllrrl_st {K : Nat → Nat} {n : Nat} {k : Nat} {vs : List jv} {j : Nat} {σ σ' : Nat → jcell} (h : ∀ a, a < n → ∀ q ∈ ra_dep.getD k [], q.1 = K a → aSm vs q (σ a) (σ' a)) (hb : rTfrlllrrl K n k (vs.take j) σ) : rTfrlllrrl K n k (vs.take j) σ' := by
  unfold rTfrlllrrl at hb ⊢
  cases c : Nat.beq k 175 with
  | true =>
    rw [c] at hb
    obtain rfl := Nat.eq_of_beq_eq_true c
    exact rs_175 h hb
  | false =>
    rw [c] at hb
    exact hb.elim
theorem rTfrlllrrr_st {K : Nat → Nat} {n : Nat} {k : Nat} {vs : List jv} {j : Nat} {σ σ' : Nat → jcell} (h : ∀ a, a < n → ∀ q ∈ ra_dep.getD k [], q.1 = K a → aSm vs q (σ a) (σ' a)) (hb : rTfrlllrrr K n k (vs.take j) σ) : rTfrlllrrr K n k (vs.take j) σ' := by
  unfold rTfrlllrrr at hb ⊢
  cases c : Nat.beq k 176 with
  | true =>
    rw [c] at hb
    obtain rfl := Nat.eq_of_beq_eq_true c
    exact rs_176 h hb
  | false =>
    rw [c] at hb
    exact hb.elim
theorem rTfrlllrr_st {K : Nat → Nat} {n : Nat} {k : Nat} {vs : List jv} {j : Nat} {σ σ' : Nat → jcell} (h : ∀ a, a < n → ∀ q ∈ ra_dep.getD k [], q.1 = K a → aSm vs q (σ a) (σ' a)) (hb : rTfrlllrr K n k (vs.take j) σ) : rTfrlllrr K n k (vs.take j) σ' := by
  unfold rTfrlllrr at hb ⊢
  cases c : Nat.ble k 175 with
  | true =>
    rw [c] at hb
    exact rTfrlllrrl_st h hb
  | false =>
    rw [c] at hb
    exact rTfrlllrrr_st h hb
theorem rTfrlllr_st {K : Nat → Nat} {n : Nat} {k : Nat} {vs : List jv} {j : Nat} {σ σ' : Nat → jcell} (h : ∀ a, a < n → ∀ q ∈ ra_dep.getD k [], q.1 = K a → aSm vs q (σ a) (σ' a)) (hb : rTfrlllr K n k (vs.take j) σ) : rTfrlllr K n k (vs.take j) σ' := by
  unfold rTfrlllr at hb ⊢
  cases c : Nat.ble k 174 with
  | true =>
    rw [c] at hb
    exact rTfrlllrl_st h hb
  | false =>
    rw [c] at hb
    exact rTfrlllrr_st h hb
theorem rTfrlll_st {K : Nat → Nat} {n : Nat} {k : Nat} {vs : List jv} {j : Nat} {σ σ' : Nat → jcell} (h : ∀ a, a < n → ∀ q ∈ ra_dep.getD k [], q.1 = K a → aSm vs q (σ a) (σ' a)) (hb : rTfrlll K n k (vs.take j) σ) : rTfrlll K n k (vs.take j) σ' := by
  unfold rTfrlll at hb ⊢
  cases c : Nat.ble k 172 with
  | true =>
    rw [c] at hb
    exact rTfrllll_st h hb
  | false =>
    rw [c] at hb
    exact rTfrlllr_st h hb
theorem rTfrllrlll_st {K : Nat → Nat} {n : Nat} {k : Nat} {vs : List jv} {j : Nat} {σ σ' : Nat → jcell} (h : ∀ a, a < n → ∀ q ∈ ra_dep.getD k [], q.1 = K a → aSm vs q (σ a) (σ' a)) (hb : rTfrllrlll K n k (vs.take j) σ) : rTfrllrlll K n k (vs.take j) σ' := by
  unfold rTfrllrlll at hb ⊢
  cases c : Nat.beq k 177 with
  | true =>
    rw [c] at hb
    obtain rfl := Nat.eq_of_beq_eq_true c
    exact rs_177 h hb
  | false =>
    rw [c] at hb
    exact hb.elim
theorem rTfrllrllr_st {K : Nat → Nat} {n : Nat} {k : Nat} {vs : List jv} {j : Nat} {σ σ' : Nat → jcell} (h : ∀ a, a < n → ∀ q ∈ ra_dep.getD k [], q.1 = K a → aSm vs q (σ a) (σ' a)) (hb : rTfrllrllr K n k (vs.take j) σ) : rTfrllrllr K n k (vs.take j) σ' := by
  unfold rTfrllrllr at hb ⊢
  cases c : Nat.beq k 179 with
  | true =>
    rw [c] at hb
    obtain rfl := Nat.eq_of_beq_eq_true c
    exact rs_179 h hb
  | false =>
    rw [c] at hb
    exact hb.elim
theorem rTfrllrll_st {K : Nat → Nat} {n : Nat} {k : Nat} {vs : List jv} {j : Nat} {σ σ' : Nat → jcell} (h : ∀ a, a < n → ∀ q ∈ ra_dep.getD k [], q.1 = K a → aSm vs q (σ a) (σ' a)) (hb : rTfrllrll K n k (vs.take j) σ) : rTfrllrll K n k (vs.take j) σ' := by
  unfold rTfrllrll at hb ⊢
  cases c : Nat.ble k 177 with
  | true =>
    rw [c] at hb
    exact rTfrllrlll_st h hb
  | false =>
    rw [c] at hb
    exact rTfrllrllr_st h hb
theorem rTfrllrlrl_st {K : Nat → Nat} {n : Nat} {k : Nat} {vs : List jv} {j : Nat} {σ σ' : Nat → jcell} (h : ∀ a, a < n → ∀ q ∈ ra_dep.getD k [], q.1 = K a → aSm vs q (σ a) (σ' a)) (hb : rTfrllrlrl K n k (vs.take j) σ) : rTfrllrlrl K n k (vs.take j) σ' := by
  unfold rTfrllrlrl at hb ⊢
  cases c : Nat.beq k 181 with
  | true =>
    rw [c] at hb
    obtain rfl := Nat.eq_of_beq_eq_true c
    exact rs_181 h hb
  | false =>
    rw [c] at hb
    exact hb.elim
theorem rTfrllrlrr_st {K : Nat → Nat} {n : Nat} {k : Nat} {vs : List jv} {j : Nat} {σ σ' : Nat → jcell} (h : ∀ a, a < n → ∀ q ∈ ra_dep.getD k [], q.1 = K a → aSm vs q (σ a) (σ' a)) (hb : rTfrllrlrr K n k (vs.take j) σ) : rTfrllrlrr K n k (vs.take j) σ' := by
  unfold rTfrllrlrr at hb ⊢
  cases c : Nat.beq k 182 with
  | true =>
    rw [c] at hb
    obtain rfl := Nat.eq_of_beq_eq_true c
    exact rs_182 h hb
  | false =>
    rw [c] at hb
    exact hb.elim
theorem rTfrllrlr_st {K : Nat → Nat} {n : Nat} {k : Nat} {vs : List jv} {j : Nat} {σ σ' : Nat → jcell} (h : ∀ a, a < n → ∀ q ∈ ra_dep.getD k [], q.1 = K a → aSm vs q (σ a) (σ' a)) (hb : rTfrllrlr K n k (vs.take j) σ) : rTfrllrlr K n k (vs.take j) σ' := by
  unfold rTfrllrlr at hb ⊢
  cases c : Nat.ble k 181 with
  | true =>
    rw [c] at hb
    exact rTfrllrlrl_st h hb
  | false =>
    rw [c] at hb
    exact rTfrllrlrr_st h hb
theorem rTfrllrl_st {K : Nat → Nat} {n : Nat} {k : Nat} {vs : List jv} {j : Nat} {σ σ' : Nat → jcell} (h : ∀ a, a < n → ∀ q ∈ ra_dep.getD k [], q.1 = K a → aSm vs q (σ a) (σ' a)) (hb : rTfrllrl K n k (vs.take j) σ) : rTfrllrl K n k (vs.take j) σ' := by
  unfold rTfrllrl at hb ⊢
  cases c : Nat.ble k 179 with
  | true =>
    rw [c] at hb
    exact rTfrllrll_st h hb
  | false =>
    rw [c] at hb
    exact rTfrllrlr_st h hb
theorem rTfrllrrll_st {K : Nat → Nat} {n : Nat} {k : Nat} {vs : List jv} {j : Nat} {σ σ' : Nat → jcell} (h : ∀ a, a < n → ∀ q ∈ ra_dep.getD k [], q.1 = K a → aSm vs q (σ a) (σ' a)) (hb : rTfrllrrll K n k (vs.take j) σ) : rTfrllrrll K n k (vs.take j) σ' := by
  unfold rTfrllrrll at hb ⊢
  cases c : Nat.beq k 183 with
  | true =>
    rw [c] at hb
    obtain rfl := Nat.eq_of_beq_eq_true c
    exact rs_183 h hb
  | false =>
    rw [c] at hb
    exact hb.elim
theorem rTfrllrrlr_st {K : Nat → Nat} {n : Nat} {k : Nat} {vs : List jv} {j : Nat} {σ σ' : Nat → jcell} (h : ∀ a, a < n → ∀ q ∈ ra_dep.getD k [], q.1 = K a → aSm vs q (σ a) (σ' a)) (hb : rTfrllrrlr K n k (vs.take j) σ) : rTfrllrrlr K n k (vs.take j) σ' := by
  unfold rTfrllrrlr at hb ⊢
  cases c : Nat.beq k 184 with
  | true =>
    rw [c] at hb
    obtain rfl := Nat.eq_of_beq_eq_true c
    exact rs_184 h hb
  | false =>
    rw [c] at hb
    exact hb.elim
theorem rTfrllrrl_st {K : Nat → Nat} {n : Nat} {k : Nat} {vs : List jv} {j : Nat} {σ σ' : Nat → jcell} (h : ∀ a, a < n → ∀ q ∈ ra_dep.getD k [], q.1 = K a → aSm vs q (σ a) (σ' a)) (hb : rTfrllrrl K n k (vs.take j) σ) : rTfrllrrl K n k (vs.take j) σ' := by
  unfold rTfrllrrl at hb ⊢
  cases c : Nat.ble k 183 with
  | true =>
    rw [c] at hb
    exact rTfrllrrll_st h hb
  | false =>
    rw [c] at hb
    exact rTfrllrrlr_st h hb
theorem rTfrllrrrl_st {K : Nat → Nat} {n : Nat} {k : Nat} {vs : List jv} {j : Nat} {σ σ' : Nat → jcell} (h : ∀ a, a < n → ∀ q ∈ ra_dep.getD k [], q.1 = K a → aSm vs q (σ a) (σ' a)) (hb : rTfrllrrrl K n k (vs.take j) σ) : rTfrllrrrl K n k (vs.take j) σ' := by
  unfold rTfrllrrrl at hb ⊢
  cases c : Nat.beq k 185 with
  | true =>
    rw [c] at hb
    obtain rfl := Nat.eq_of_beq_eq_true c
    exact rs_185 h hb
  | false =>
    rw [c] at hb
    exact hb.elim
theorem rTfrllrrrr_st {K : Nat → Nat} {n : Nat} {k : Nat} {vs : List jv} {j : Nat} {σ σ' : Nat → jcell} (h : ∀ a, a < n → ∀ q ∈ ra_dep.getD k [], q.1 = K a → aSm vs q (σ a) (σ' a)) (hb : rTfrllrrrr K n k (vs.take j) σ) : rTfrllrrrr K n k (vs.take j) σ' := by
  unfold rTfrllrrrr at hb ⊢
  cases c : Nat.beq k 186 with
  | true =>
    rw [c] at hb
    obtain rfl := Nat.eq_of_beq_eq_true c
    exact rs_186 h hb
  | false =>
    rw [c] at hb
    exact hb.elim
theorem rTfrllrrr_st {K : Nat → Nat} {n : Nat} {k : Nat} {vs : List jv} {j : Nat} {σ σ' : Nat → jcell} (h : ∀ a, a < n → ∀ q ∈ ra_dep.getD k [], q.1 = K a → aSm vs q (σ a) (σ' a)) (hb : rTfrllrrr K n k (vs.take j) σ) : rTfrllrrr K n k (vs.take j) σ' := by
  unfold rTfrllrrr at hb ⊢
  cases c : Nat.ble k 185 with
  | true =>
    rw [c] at hb
    exact rTfrllrrrl_st h hb
  | false =>
    rw [c] at hb
    exact rTfrllrrrr_st h hb
theorem rTfrllrr_st {K : Nat → Nat} {n : Nat} {k : Nat} {vs : List jv} {j : Nat} {σ σ' : Nat → jcell} (h : ∀ a, a < n → ∀ q ∈ ra_dep.getD k [], q.1 = K a → aSm vs q (σ a) (σ' a)) (hb : rTfrllrr K n k (vs.take j) σ) : rTfrllrr K n k (vs.take j) σ' := by
  unfold rTfrllrr at hb ⊢
  cases c : Nat.ble k 184 with
  | true =>
    rw [c] at hb
    exact rTfrllrrl_st h hb
  | false =>
    rw [c] at hb
    exact rTfrllrrr_st h hb
theorem rTfrllr_st {K : Nat → Nat} {n : Nat} {k : Nat} {vs : List jv} {j : Nat} {σ σ' : Nat → jcell} (h : ∀ a, a < n → ∀ q ∈ ra_dep.getD k [], q.1 = K a → aSm vs q (σ a) (σ' a)) (hb : rTfrllr K n k (vs.take j) σ) : rTfrllr K n k (vs.take j) σ' := by
  unfold rTfrllr at hb ⊢
  cases c : Nat.ble k 182 with
  | true =>
    rw [c] at hb
    exact rTfrllrl_st h hb
  | false =>
    rw [c] at hb
    exact rTfrllrr_st h hb
theorem rTfrll_st {K : Nat → Nat} {n : Nat} {k : Nat} {vs : List jv} {j : Nat} {σ σ' : Nat → jcell} (h : ∀ a, a < n → ∀ q ∈ ra_dep.getD k [], q.1 = K a → aSm vs q (σ a) (σ' a)) (hb : rTfrll K n k (vs.take j) σ) : rTfrll K n k (vs.take j) σ' := by
  unfold rTfrll at hb ⊢
  cases c : Nat.ble k 176 with
  | true =>
    rw [c] at hb
    exact rTfrlll_st h hb
  | false =>
    rw [c] at hb
    exact rTfrllr_st h hb
theorem rTfrlrllll_st {K : Nat → Nat} {n : Nat} {k : Nat} {vs : List jv} {j : Nat} {σ σ' : Nat → jcell} (h : ∀ a, a < n → ∀ q ∈ ra_dep.getD k [], q.1 = K a → aSm vs q (σ a) (σ' a)) (hb : rTfrlrllll K n k (vs.take j) σ) : rTfrlrllll K n k (vs.take j) σ' := by
  unfold rTfrlrllll at hb ⊢
  cases c : Nat.beq k 187 with
  | true =>
    rw [c] at hb
    obtain rfl := Nat.eq_of_beq_eq_true c
    exact rs_187 h hb
  | false =>
    rw [c] at hb
    exact hb.elim
theorem rTfrlrlllr_st {K : Nat → Nat} {n : Nat} {k : Nat} {vs : List jv} {j : Nat} {σ σ' : Nat → jcell} (h : ∀ a, a < n → ∀ q ∈ ra_dep.getD k [], q.1 = K a → aSm vs q (σ a) (σ' a)) (hb : rTfrlrlllr K n k (vs.take j) σ) : rTfrlrlllr K n k (vs.take j) σ' := by
  unfold rTfrlrlllr at hb ⊢
  cases c : Nat.beq k 188 with
  | true =>
    rw [c] at hb
    obtain rfl := Nat.eq_of_beq_eq_true c
    exact rs_188 h hb
  | false =>
    rw [c] at hb
    exact hb.elim
theorem rTfrlrlll_st {K : Nat → Nat} {n : Nat} {k : Nat} {vs : List jv} {j : Nat} {σ σ' : Nat → jcell} (h : ∀ a, a < n → ∀ q ∈ ra_dep.getD k [], q.1 = K a → aSm vs q (σ a) (σ' a)) (hb : rTfrlrlll K n k (vs.take j) σ) : rTfrlrlll K n k (vs.take j) σ' := by
  unfold rTfrlrlll at hb ⊢
  cases c : Nat.ble k 187 with
  | true =>
    rw [c] at hb
    exact rTfrlrllll_st h hb
  | false =>
    rw [c] at hb
    exact rTfrlrlllr_st h hb
theorem rTfrlrllrl_st {K : Nat → Nat} {n : Nat} {k : Nat} {vs : List jv} {j : Nat} {σ σ' : Nat → jcell} (h : ∀ a, a < n → ∀ q ∈ ra_dep.getD k [], q.1 = K a → aSm vs q (σ a) (σ' a)) (hb : rTfrlrllrl K n k (vs.take j) σ) : rTfrlrllrl K n k (vs.take j) σ' := by
  unfold rTfrlrllrl at hb ⊢
  cases c : Nat.beq k 189 with
  | true =>
    rw [c] at hb
    obtain rfl := Nat.eq_of_beq_eq_true c
    exact rs_189 h hb
  | false =>
    rw [c] at hb
    exact hb.elim
theorem rTfrlrllrr_st {K : Nat → Nat} {n : Nat} {k : Nat} {vs : List jv} {j : Nat} {σ σ' : Nat → jcell} (h : ∀ a, a < n → ∀ q ∈ ra_dep.getD k [], q.1 = K a → aSm vs q (σ a) (σ' a)) (hb : rTfrlrllrr K n k (vs.take j) σ) : rTfrlrllrr K n k (vs.take j) σ' := by
  unfold rTfrlrllrr at hb ⊢
  cases c : Nat.beq k 190 with
  | true =>
    rw [c] at hb
    obtain rfl := Nat.eq_of_beq_eq_true c
    exact rs_190 h hb
  | false =>
    rw [c] at hb
    exact hb.elim
theorem rTfrlrllr_st {K : Nat → Nat} {n : Nat} {k : Nat} {vs : List jv} {j : Nat} {σ σ' : Nat → jcell} (h : ∀ a, a < n → ∀ q ∈ ra_dep.getD k [], q.1 = K a → aSm vs q (σ a) (σ' a)) (hb : rTfrlrllr K n k (vs.take j) σ) : rTfrlrllr K n k (vs.take j) σ' := by
  unfold rTfrlrllr at hb ⊢
  cases c : Nat.ble k 189 with
  | true =>
    rw [c] at hb
    exact rTfrlrllrl_st h hb
  | false =>
    rw [c] at hb
    exact rTfrlrllrr_st h hb
theorem rTfrlrll_st {K : Nat → Nat} {n : Nat} {k : Nat} {vs : List jv} {j : Nat} {σ σ' : Nat → jcell} (h : ∀ a, a < n → ∀ q ∈ ra_dep.getD k [], q.1 = K a → aSm vs q (σ a) (σ' a)) (hb : rTfrlrll K n k (vs.take j) σ) : rTfrlrll K n k (vs.take j) σ' := by
  unfold rTfrlrll at hb ⊢
  cases c : Nat.ble k 188 with
  | true =>
    rw [c] at hb
    exact rTfrlrlll_st h hb
  | false =>
    rw [c] at hb
    exact rTfrlrllr_st h hb
theorem rTfrlrlrll_st {K : Nat → Nat} {n : Nat} {k : Nat} {vs : List jv} {j : Nat} {σ σ' : Nat → jcell} (h : ∀ a, a < n → ∀ q ∈ ra_dep.getD k [], q.1 = K a → aSm vs q (σ a) (σ' a)) (hb : rTfrlrlrll K n k (vs.take j) σ) : rTfrlrlrll K n k (vs.take j) σ' := by
  unfold rTfrlrlrll at hb ⊢
  cases c : Nat.beq k 191 with
  | true =>
    rw [c] at hb
    obtain rfl := Nat.eq_of_beq_eq_true c
    exact rs_191 h hb
  | false =>
    rw [c] at hb
    exact hb.elim
theorem rTfrlrlrlr_st {K : Nat → Nat} {n : Nat} {k : Nat} {vs : List jv} {j : Nat} {σ σ' : Nat → jcell} (h : ∀ a, a < n → ∀ q ∈ ra_dep.getD k [], q.1 = K a → aSm vs q (σ a) (σ' a)) (hb : rTfrlrlrlr K n k (vs.take j) σ) : rTfrlrlrlr K n k (vs.take j) σ' := by
  unfold rTfrlrlrlr at hb ⊢
  cases c : Nat.beq k 192 with
  | true =>
    rw [c] at hb
    obtain rfl := Nat.eq_of_beq_eq_true c
    exact rs_192 h hb
  | false =>
    rw [c] at hb
    exact hb.elim
theorem rTfrlrlrl_st {K : Nat → Nat} {n : Nat} {k : Nat} {vs : List jv} {j : Nat} {σ σ' : Nat → jcell} (h : ∀ a, a < n → ∀ q ∈ ra_dep.getD k [], q.1 = K a → aSm vs q (σ a) (σ' a)) (hb : rTfrlrlrl K n k (vs.take j) σ) : rTfrlrlrl K n k (vs.take j) σ' := by
  unfold rTfrlrlrl at hb ⊢
  cases c : Nat.ble k 191 with
  | true =>
    rw [c] at hb
    exact rTfrlrlrll_st h hb
  | false =>
    rw [c] at hb
    exact rTfrlrlrlr_st h hb
theorem rTfrlrlrrl_st {K : Nat → Nat} {n : Nat} {k : Nat} {vs : List jv} {j : Nat} {σ σ' : Nat → jcell} (h : ∀ a, a < n → ∀ q ∈ ra_dep.getD k [], q.1 = K a → aSm vs q (σ a) (σ' a)) (hb : rTfrlrlrrl K n k (vs.take j) σ) : rTfrlrlrrl K n k (vs.take j) σ' := by
  unfold rTfrlrlrrl at hb ⊢
  cases c : Nat.beq k 193 with
  | true =>
    rw [c] at hb
    obtain rfl := Nat.eq_of_beq_eq_true c
    exact rs_193 h hb
  | false =>
    rw [c] at hb
    exact hb.elim
theorem rTfrlrlrrr_st {K : Nat → Nat} {n : Nat} {k : Nat} {vs : List jv} {j : Nat} {σ σ' : Nat → jcell} (h : ∀ a, a < n → ∀ q ∈ ra_dep.getD k [], q.1 = K a → aSm vs q (σ a) (σ' a)) (hb : rTfrlrlrrr K n k (vs.take j) σ) : rTfrlrlrrr K n k (vs.take j) σ' := by
  unfold rTfrlrlrrr at hb ⊢
  cases c : Nat.beq k 194 with
  | true =>
    rw [c] at hb
    obtain rfl := Nat.eq_of_beq_eq_true c
    exact rs_194 h hb
  | false =>
    rw [c] at hb
    exact hb.elim
theorem rTfrlrlrr_st {K : Nat → Nat} {n : Nat} {k : Nat} {vs : List jv} {j : Nat} {σ σ' : Nat → jcell} (h : ∀ a, a < n → ∀ q ∈ ra_dep.getD k [], q.1 = K a → aSm vs q (σ a) (σ' a)) (hb : rTfrlrlrr K n k (vs.take j) σ) : rTfrlrlrr K n k (vs.take j) σ' := by
  unfold rTfrlrlrr at hb ⊢
  cases c : Nat.ble k 193 with
  | true =>
    rw [c] at hb
    exact rTfrlrlrrl_st h hb
  | false =>
    rw [c] at hb
    exact rTfrlrlrrr_st h hb
theorem rTfrlrlr_st {K : Nat → Nat} {n : Nat} {k : Nat} {vs : List jv} {j : Nat} {σ σ' : Nat → jcell} (h : ∀ a, a < n → ∀ q ∈ ra_dep.getD k [], q.1 = K a → aSm vs q (σ a) (σ' a)) (hb : rTfrlrlr K n k (vs.take j) σ) : rTfrlrlr K n k (vs.take j) σ' := by
  unfold rTfrlrlr at hb ⊢
  cases c : Nat.ble k 192 with
  | true =>
    rw [c] at hb
    exact rTfrlrlrl_st h hb
  | false =>
    rw [c] at hb
    exact rTfrlrlrr_st h hb
theorem rTfrlrl_st {K : Nat → Nat} {n : Nat} {k : Nat} {vs : List jv} {j : Nat} {σ σ' : Nat → jcell} (h : ∀ a, a < n → ∀ q ∈ ra_dep.getD k [], q.1 = K a → aSm vs q (σ a) (σ' a)) (hb : rTfrlrl K n k (vs.take j) σ) : rTfrlrl K n k (vs.take j) σ' := by
  unfold rTfrlrl at hb ⊢
  cases c : Nat.ble k 190 with
  | true =>
    rw [c] at hb
    exact rTfrlrll_st h hb
  | false =>
    rw [c] at hb
    exact rTfrlrlr_st h hb
theorem rTfrlrrlll_st {K : Nat → Nat} {n : Nat} {k : Nat} {vs : List jv} {j : Nat} {σ σ' : Nat → jcell} (h : ∀ a, a < n → ∀ q ∈ ra_dep.getD k [], q.1 = K a → aSm vs q (σ a) (σ' a)) (hb : rTfrlrrlll K n k (vs.take j) σ) : rTfrlrrlll K n k (vs.take j) σ' := by
  unfold rTfrlrrlll at hb ⊢
  cases c : Nat.beq k 195 with
  | true =>
    rw [c] at hb
    obtain rfl := Nat.eq_of_beq_eq_true c
    exact rs_195 h hb
  | false =>
    rw [c] at hb
    exact hb.elim
theorem rTfrlrrllr_st {K : Nat → Nat} {n : Nat} {k : Nat} {vs : List jv} {j : Nat} {σ σ' : Nat → jcell} (h : ∀ a, a < n → ∀ q ∈ ra_dep.getD k [], q.1 = K a → aSm vs q (σ a) (σ' a)) (hb : rTfrlrrllr K n k (vs.take j) σ) : rTfrlrrllr K n k (vs.take j) σ' := by
  unfold rTfrlrrllr at hb ⊢
  cases c : Nat.beq k 197 with
  | true =>
    rw [c] at hb
    obtain rfl := Nat.eq_of_beq_eq_true c
    exact rs_197 h hb
  | false =>
    rw [c] at hb
    exact hb.elim
theorem rTfrlrrll_st {K : Nat → Nat} {n : Nat} {k : Nat} {vs : List jv} {j : Nat} {σ σ' : Nat → jcell} (h : ∀ a, a < n → ∀ q ∈ ra_dep.getD k [], q.1 = K a → aSm vs q (σ a) (σ' a)) (hb : rTfrlrrll K n k (vs.take j) σ) : rTfrlrrll K n k (vs.take j) σ' := by
  unfold rTfrlrrll at hb ⊢
  cases c : Nat.ble k 195 with
  | true =>
    rw [c] at hb
    exact rTfrlrrlll_st h hb
  | false =>
    rw [c] at hb
    exact rTfrlrrllr_st h hb
theorem rTfrlrrlrl_st {K : Nat → Nat} {n : Nat} {k : Nat} {vs : List jv} {j : Nat} {σ σ' : Nat → jcell} (h : ∀ a, a < n → ∀ q ∈ ra_dep.getD k [], q.1 = K a → aSm vs q (σ a) (σ' a)) (hb : rTfrlrrlrl K n k (vs.take j) σ) : rTfrlrrlrl K n k (vs.take j) σ' := by
  unfold rTfrlrrlrl at hb ⊢
  cases c : Nat.beq k 198 with
  | true =>
    rw [c] at hb
    obtain rfl := Nat.eq_of_beq_eq_true c
    exact rs_198 h hb
  | false =>
    rw [c] at hb
    exact hb.elim
theorem rTfrlrrlrr_st {K : Nat → Nat} {n : Nat} {k : Nat} {vs : List jv} {j : Nat} {σ σ' : Nat → jcell} (h : ∀ a, a < n → ∀ q ∈ ra_dep.getD k [], q.1 = K a → aSm vs q (σ a) (σ' a)) (hb : rTfrlrrlrr K n k (vs.take j) σ) : rTfrlrrlrr K n k (vs.take j) σ' := by
  unfold rTfrlrrlrr at hb ⊢
  cases c : Nat.beq k 199 with
  | true =>
    rw [c] at hb
    obtain rfl := Nat.eq_of_beq_eq_true c
    exact rs_199 h hb
  | false =>
    rw [c] at hb
    exact hb.elim
theorem rTfrlrrlr_st {K : Nat → Nat} {n : Nat} {k : Nat} {vs : List jv} {j : Nat} {σ σ' : Nat → jcell} (h : ∀ a, a < n → ∀ q ∈ ra_dep.getD k [], q.1 = K a → aSm vs q (σ a) (σ' a)) (hb : rTfrlrrlr K n k (vs.take j) σ) : rTfrlrrlr K n k (vs.take j) σ' := by
  unfold rTfrlrrlr at hb ⊢
  cases c : Nat.ble k 198 with
  | true =>
    rw [c] at hb
    exact rTfrlrrlrl_st h hb
  | false =>
    rw [c] at hb
    exact rTfrlrrlrr_st h hb
theorem rTfrlrrl_st {K : Nat → Nat} {n : Nat} {k : Nat} {vs : List jv} {j : Nat} {σ σ' : Nat → jcell} (h : ∀ a, a < n → ∀ q ∈ ra_dep.getD k [], q.1 = K a → aSm vs q (σ a) (σ' a)) (hb : rTfrlrrl K n k (vs.take j) σ) : rTfrlrrl K n k (vs.take j) σ' := by
  unfold rTfrlrrl at hb ⊢
  cases c : Nat.ble k 197 with
  | true =>
    rw [c] at hb
    exact rTfrlrrll_st h hb
  | false =>
    rw [c] at hb
    exact rTfrlrrlr_st h hb
theorem rTfrlrrrll_st {K : Nat → Nat} {n : Nat} {k : Nat} {vs : List jv} {j : Nat} {σ σ' : Nat → jcell} (h : ∀ a, a < n → ∀ q ∈ ra_dep.getD k [], q.1 = K a → aSm vs q (σ a) (σ' a)) (hb : rTfrlrrrll K n k (vs.take j) σ) : rTfrlrrrll K n k (vs.take j) σ' := by
  unfold rTfrlrrrll at hb ⊢
  cases c : Nat.beq k 200 with
  | true =>
    rw [c] at hb
    obtain rfl := Nat.eq_of_beq_eq_true c
    exact rs_200 h hb
  | false =>
    rw [c] at hb
    exact hb.elim
theorem rTfrlrrrlr_st {K : Nat → Nat} {n : Nat} {k : Nat} {vs : List jv} {j : Nat} {σ σ' : Nat → jcell} (h : ∀ a, a < n → ∀ q ∈ ra_dep.getD k [], q.1 = K a → aSm vs q (σ a) (σ' a)) (hb : rTfrlrrrlr K n k (vs.take j) σ) : rTfrlrrrlr K n k (vs.take j) σ' := by
  unfold rTfrlrrrlr at hb ⊢
  cases c : Nat.beq k 201 with
  | true =>
    rw [c] at hb
    obtain rfl := Nat.eq_of_beq_eq_true c
    exact rs_201 h hb
  | false =>
    rw [c] at hb
    exact hb.elim
theorem rTfrlrrrl_st {K : Nat → Nat} {n : Nat} {k : Nat} {vs : List jv} {j : Nat} {σ σ' : Nat → jcell} (h : ∀ a, a < n → ∀ q ∈ ra_dep.getD k [], q.1 = K a → aSm vs q (σ a) (σ' a)) (hb : rTfrlrrrl K n k (vs.take j) σ) : rTfrlrrrl K n k (vs.take j) σ' := by
  unfold rTfrlrrrl at hb ⊢
  cases c : Nat.ble k 200 with
  | true =>
    rw [c] at hb
    exact rTfrlrrrll_st h hb
  | false =>
    rw [c] at hb
    exact rTfrlrrrlr_st h hb
theorem rTfrlrrrrl_st {K : Nat → Nat} {n : Nat} {k : Nat} {vs : List jv} {j : Nat} {σ σ' : Nat → jcell} (h : ∀ a, a < n → ∀ q ∈ ra_dep.getD k [], q.1 = K a → aSm vs q (σ a) (σ' a)) (hb : rTfrlrrrrl K n k (vs.take j) σ) : rTfrlrrrrl K n k (vs.take j) σ' := by
  unfold rTfrlrrrrl at hb ⊢
  cases c : Nat.beq k 202 with
  | true =>
    rw [c] at hb
    obtain rfl := Nat.eq_of_beq_eq_true c
    exact rs_202 h hb
  | false =>
    rw [c] at hb
    exact hb.elim
theorem rTfrlrrrrr_st {K : Nat → Nat} {n : Nat} {k : Nat} {vs : List jv} {j : Nat} {σ σ' : Nat → jcell} (h : ∀ a, a < n → ∀ q ∈ ra_dep.getD k [], q.1 = K a → aSm vs q (σ a) (σ' a)) (hb : rTfrlrrrrr K n k (vs.take j) σ) : rTfrlrrrrr K n k (vs.take j) σ' := by
  unfold rTfrlrrrrr at hb ⊢
  cases c : Nat.beq k 203 with
  | true =>
    rw [c] at hb
    obtain rfl := Nat.eq_of_beq_eq_true c
    exact rs_203 h hb
  | false =>
    rw [c] at hb
    exact hb.elim
theorem rTfrlrrrr_st {K : Nat → Nat} {n : Nat} {k : Nat} {vs : List jv} {j : Nat} {σ σ' : Nat → jcell} (h : ∀ a, a < n → ∀ q ∈ ra_dep.getD k [], q.1 = K a → aSm vs q (σ a) (σ' a)) (hb : rTfrlrrrr K n k (vs.take j) σ) : rTfrlrrrr K n k (vs.take j) σ' := by
  unfold rTfrlrrrr at hb ⊢
  cases c : Nat.ble k 202 with
  | true =>
    rw [c] at hb
    exact rTfrlrrrrl_st h hb
  | false =>
    rw [c] at hb
    exact rTfrlrrrrr_st h hb
theorem rTfrlrrr_st {K : Nat → Nat} {n : Nat} {k : Nat} {vs : List jv} {j : Nat} {σ σ' : Nat → jcell} (h : ∀ a, a < n → ∀ q ∈ ra_dep.getD k [], q.1 = K a → aSm vs q (σ a) (σ' a)) (hb : rTfrlrrr K n k (vs.take j) σ) : rTfrlrrr K n k (vs.take j) σ' := by
  unfold rTfrlrrr at hb ⊢
  cases c : Nat.ble k 201 with
  | true =>
    rw [c] at hb
    exact rTfrlrrrl_st h hb
  | false =>
    rw [c] at hb
    exact rTfrlrrrr_st h hb
theorem rTfrlrr_st {K : Nat → Nat} {n : Nat} {k : Nat} {vs : List jv} {j : Nat} {σ σ' : Nat → jcell} (h : ∀ a, a < n → ∀ q ∈ ra_dep.getD k [], q.1 = K a → aSm vs q (σ a) (σ' a)) (hb : rTfrlrr K n k (vs.take j) σ) : rTfrlrr K n k (vs.take j) σ' := by
  unfold rTfrlrr at hb ⊢
  cases c : Nat.ble k 199 with
  | true =>
    rw [c] at hb
    exact rTfrlrrl_st h hb
  | false =>
    rw [c] at hb
    exact rTfrlrrr_st h hb
theorem rTfrlr_st {K : Nat → Nat} {n : Nat} {k : Nat} {vs : List jv} {j : Nat} {σ σ' : Nat → jcell} (h : ∀ a, a < n → ∀ q ∈ ra_dep.getD k [], q.1 = K a → aSm vs q (σ a) (σ' a)) (hb : rTfrlr K n k (vs.take j) σ) : rTfrlr K n k (vs.take j) σ' := by
  unfold rTfrlr at hb ⊢
  cases c : Nat.ble k 194 with
  | true =>
    rw [c] at hb
    exact rTfrlrl_st h hb
  | false =>
    rw [c] at hb
    exact rTfrlrr_st h hb
theorem rTfrl_st {K : Nat → Nat} {n : Nat} {k : Nat} {vs : List jv} {j : Nat} {σ σ' : Nat → jcell} (h : ∀ a, a < n → ∀ q ∈ ra_dep.getD k [], q.1 = K a → aSm vs q (σ a) (σ' a)) (hb : rTfrl K n k (vs.take j) σ) : rTfrl K n k (vs.take j) σ' := by
  unfold rTfrl at hb ⊢
  cases c : Nat.ble k 186 with
  | true =>
    rw [c] at hb
    exact rTfrll_st h hb
  | false =>
    rw [c] at hb
    exact rTfrlr_st h hb
theorem rTfrrlllll_st {K : Nat → Nat} {n : Nat} {k : Nat} {vs : List jv} {j : Nat} {σ σ' : Nat → jcell} (h : ∀ a, a < n → ∀ q ∈ ra_dep.getD k [], q.1 = K a → aSm vs q (σ a) (σ' a)) (hb : rTfrrlllll K n k (vs.take j) σ) : rTfrrlllll K n k (vs.take j) σ' := by
  unfold rTfrrlllll at hb ⊢
  cases c : Nat.beq k 204 with
  | true =>
    rw [c] at hb
    obtain rfl := Nat.eq_of_beq_eq_true c
    exact rs_204 h hb
  | false =>
    rw [c] at hb
    exact hb.elim
theorem rTfrrllllr_st {K : Nat → Nat} {n : Nat} {k : Nat} {vs : List jv} {j : Nat} {σ σ' : Nat → jcell} (h : ∀ a, a < n → ∀ q ∈ ra_dep.getD k [], q.1 = K a → aSm vs q (σ a) (σ' a)) (hb : rTfrrllllr K n k (vs.take j) σ) : rTfrrllllr K n k (vs.take j) σ' := by
  unfold rTfrrllllr at hb ⊢
  cases c : Nat.beq k 205 with
  | true =>
    rw [c] at hb
    obtain rfl := Nat.eq_of_beq_eq_true c
    exact rs_205 h hb
  | false =>
    rw [c] at hb
    exact hb.elim
theorem rTfrrllll_st {K : Nat → Nat} {n : Nat} {k : Nat} {vs : List jv} {j : Nat} {σ σ' : Nat → jcell} (h : ∀ a, a < n → ∀ q ∈ ra_dep.getD k [], q.1 = K a → aSm vs q (σ a) (σ' a)) (hb : rTfrrllll K n k (vs.take j) σ) : rTfrrllll K n k (vs.take j) σ' := by
  unfold rTfrrllll at hb ⊢
  cases c : Nat.ble k 204 with
  | true =>
    rw [c] at hb
    exact rTfrrlllll_st h hb
  | false =>
    rw [c] at hb
    exact rTfrrllllr_st h hb
theorem rTfrrlllrl_st {K : Nat → Nat} {n : Nat} {k : Nat} {vs : List jv} {j : Nat} {σ σ' : Nat → jcell} (h : ∀ a, a < n → ∀ q ∈ ra_dep.getD k [], q.1 = K a → aSm vs q (σ a) (σ' a)) (hb : rTfrrlllrl K n k (vs.take j) σ) : rTfrrlllrl K n k (vs.take j) σ' := by
  unfold rTfrrlllrl at hb ⊢
  cases c : Nat.beq k 206 with
  | true =>
    rw [c] at hb
    obtain rfl := Nat.eq_of_beq_eq_true c
    exact rs_206 h hb
  | false =>
    rw [c] at hb
    exact hb.elim
theorem rTfrrlllrr_st {K : Nat → Nat} {n : Nat} {k : Nat} {vs : List jv} {j : Nat} {σ σ' : Nat → jcell} (h : ∀ a, a < n → ∀ q ∈ ra_dep.getD k [], q.1 = K a → aSm vs q (σ a) (σ' a)) (hb : rTfrrlllrr K n k (vs.take j) σ) : rTfrrlllrr K n k (vs.take j) σ' := by
  unfold rTfrrlllrr at hb ⊢
  cases c : Nat.beq k 207 with
  | true =>
    rw [c] at hb
    obtain rfl := Nat.eq_of_beq_eq_true c
    exact rs_207 h hb
  | false =>
    rw [c] at hb
    exact hb.elim
theorem rTfrrlllr_st {K : Nat → Nat} {n : Nat} {k : Nat} {vs : List jv} {j : Nat} {σ σ' : Nat → jcell} (h : ∀ a, a < n → ∀ q ∈ ra_dep.getD k [], q.1 = K a → aSm vs q (σ a) (σ' a)) (hb : rTfrrlllr K n k (vs.take j) σ) : rTfrrlllr K n k (vs.take j) σ' := by
  unfold rTfrrlllr at hb ⊢
  cases c : Nat.ble k 206 with
  | true =>
    rw [c] at hb
    exact rTfrrlllrl_st h hb
  | false =>
    rw [c] at hb
    exact rTfrrlllrr_st h hb
theorem rTfrrlll_st {K : Nat → Nat} {n : Nat} {k : Nat} {vs : List jv} {j : Nat} {σ σ' : Nat → jcell} (h : ∀ a, a < n → ∀ q ∈ ra_dep.getD k [], q.1 = K a → aSm vs q (σ a) (σ' a)) (hb : rTfrrlll K n k (vs.take j) σ) : rTfrrlll K n k (vs.take j) σ' := by
  unfold rTfrrlll at hb ⊢
  cases c : Nat.ble k 205 with
  | true =>
    rw [c] at hb
    exact rTfrrllll_st h hb
  | false =>
    rw [c] at hb
    exact rTfrrlllr_st h hb
theorem rTfrrllrll_st {K : Nat → Nat} {n : Nat} {k : Nat} {vs : List jv} {j : Nat} {σ σ' : Nat → jcell} (h : ∀ a, a < n → ∀ q ∈ ra_dep.getD k [], q.1 = K a → aSm vs q (σ a) (σ' a)) (hb : rTfrrllrll K n k (vs.take j) σ) : rTfrrllrll K n k (vs.take j) σ' := by
  unfold rTfrrllrll at hb ⊢
  cases c : Nat.beq k 208 with
  | true =>
    rw [c] at hb
    obtain rfl := Nat.eq_of_beq_eq_true c
    exact rs_208 h hb
  | false =>
    rw [c] at hb
    exact hb.elim
theorem rTfrrllrlr_st {K : Nat → Nat} {n : Nat} {k : Nat} {vs : List jv} {j : Nat} {σ σ' : Nat → jcell} (h : ∀ a, a < n → ∀ q ∈ ra_dep.getD k [], q.1 = K a → aSm vs q (σ a) (σ' a)) (hb : rTfrrllrlr K n k (vs.take j) σ) : rTfrrllrlr K n k (vs.take j) σ' := by
  unfold rTfrrllrlr at hb ⊢
  cases c : Nat.beq k 209 with
  | true =>
    rw [c] at hb
    obtain rfl := Nat.eq_of_beq_eq_true c
    exact rs_209 h hb
  | false =>
    rw [c] at hb
    exact hb.elim
theorem rTfrrllrl_st {K : Nat → Nat} {n : Nat} {k : Nat} {vs : List jv} {j : Nat} {σ σ' : Nat → jcell} (h : ∀ a, a < n → ∀ q ∈ ra_dep.getD k [], q.1 = K a → aSm vs q (σ a) (σ' a)) (hb : rTfrrllrl K n k (vs.take j) σ) : rTfrrllrl K n k (vs.take j) σ' := by
  unfold rTfrrllrl at hb ⊢
  cases c : Nat.ble k 208 with
  | true =>
    rw [c] at hb
    exact rTfrrllrll_st h hb
  | false =>
    rw [c] at hb
    exact rTfrrllrlr_st h hb
theorem rTfrrllrrl_st {K : Nat → Nat} {n : Nat} {k : Nat} {vs : List jv} {j : Nat} {σ σ' : Nat → jcell} (h : ∀ a, a < n → ∀ q ∈ ra_dep.getD k [], q.1 = K a → aSm vs q (σ a) (σ' a)) (hb : rTfrrllrrl K n k (vs.take j) σ) : rTfrrllrrl K n k (vs.take j) σ' := by
  unfold rTfrrllrrl at hb ⊢
  cases c : Nat.beq k 210 with
  | true =>
    rw [c] at hb
    obtain rfl := Nat.eq_of_beq_eq_true c
    exact rs_210 h hb
  | false =>
    rw [c] at hb
    exact hb.elim
theorem rTfrrllrrr_st {K : Nat → Nat} {n : Nat} {k : Nat} {vs : List jv} {j : Nat} {σ σ' : Nat → jcell} (h : ∀ a, a < n → ∀ q ∈ ra_dep.getD k [], q.1 = K a → aSm vs q (σ a) (σ' a)) (hb : rTfrrllrrr K n k (vs.take j) σ) : rTfrrllrrr K n k (vs.take j) σ' := by
  unfold rTfrrllrrr at hb ⊢
  cases c : Nat.beq k 211 with
  | true =>
    rw [c] at hb
    obtain rfl := Nat.eq_of_beq_eq_true c
    exact rs_211 h hb
  | false =>
    rw [c] at hb
    exact hb.elim
theorem rTfrrllrr_st {K : Nat → Nat} {n : Nat} {k : Nat} {vs : List jv} {j : Nat} {σ σ' : Nat → jcell} (h : ∀ a, a < n → ∀ q ∈ ra_dep.getD k [], q.1 = K a → aSm vs q (σ a) (σ' a)) (hb : rTfrrllrr K n k (vs.take j) σ) : rTfrrllrr K n k (vs.take j) σ' := by
  unfold rTfrrllrr at hb ⊢
  cases c : Nat.ble k 210 with
  | true =>
    rw [c] at hb
    exact rTfrrllrrl_st h hb
  | false =>
    rw [c] at hb
    exact rTfrrllrrr_st h hb
theorem rTfrrllr_st {K : Nat → Nat} {n : Nat} {k : Nat} {vs : List jv} {j : Nat} {σ σ' : Nat → jcell} (h : ∀ a, a < n → ∀ q ∈ ra_dep.getD k [], q.1 = K a → aSm vs q (σ a) (σ' a)) (hb : rTfrrllr K n k (vs.take j) σ) : rTfrrllr K n k (vs.take j) σ' := by
  unfold rTfrrllr at hb ⊢
  cases c : Nat.ble k 209 with
  | true =>
    rw [c] at hb
    exact rTfrrllrl_st h hb
  | false =>
    rw [c] at hb
    exact rTfrrllrr_st h hb
theorem rTfrrll_st {K : Nat → Nat} {n : Nat} {k : Nat} {vs : List jv} {j : Nat} {σ σ' : Nat → jcell} (h : ∀ a, a < n → ∀ q ∈ ra_dep.getD k [], q.1 = K a → aSm vs q (σ a) (σ' a)) (hb : rTfrrll K n k (vs.take j) σ) : rTfrrll K n k (vs.take j) σ' := by
  unfold rTfrrll at hb ⊢
  cases c : Nat.ble k 207 with
  | true =>
    rw [c] at hb
    exact rTfrrlll_st h hb
  | false =>
    rw [c] at hb
    exact rTfrrllr_st h hb
theorem rTfrrlrlll_st {K : Nat → Nat} {n : Nat} {k : Nat} {vs : List jv} {j : Nat} {σ σ' : Nat → jcell} (h : ∀ a, a < n → ∀ q ∈ ra_dep.getD k [], q.1 = K a → aSm vs q (σ a) (σ' a)) (hb : rTfrrlrlll K n k (vs.take j) σ) : rTfrrlrlll K n k (vs.take j) σ' := by
  unfold rTfrrlrlll at hb ⊢
  cases c : Nat.beq k 212 with
  | true =>
    rw [c] at hb
    obtain rfl := Nat.eq_of_beq_eq_true c
    exact rs_212 h hb
  | false =>
    rw [c] at hb
    exact hb.elim
theorem rTfrrlrllr_st {K : Nat → Nat} {n : Nat} {k : Nat} {vs : List jv} {j : Nat} {σ σ' : Nat → jcell} (h : ∀ a, a < n → ∀ q ∈ ra_dep.getD k [], q.1 = K a → aSm vs q (σ a) (σ' a)) (hb : rTfrrlrllr K n k (vs.take j) σ) : rTfrrlrllr K n k (vs.take j) σ' := by
  unfold rTfrrlrllr at hb ⊢
  cases c : Nat.beq k 213 with
  | true =>
    rw [c] at hb
    obtain rfl := Nat.eq_of_beq_eq_true c
    exact rs_213 h hb
  | false =>
    rw [c] at hb
    exact hb.elim
theorem rTfrrlrll_st {K : Nat → Nat} {n : Nat} {k : Nat} {vs : List jv} {j : Nat} {σ σ' : Nat → jcell} (h : ∀ a, a < n → ∀ q ∈ ra_dep.getD k [], q.1 = K a → aSm vs q (σ a) (σ' a)) (hb : rTfrrlrll K n k (vs.take j) σ) : rTfrrlrll K n k (vs.take j) σ' := by
  unfold rTfrrlrll at hb ⊢
  cases c : Nat.ble k 212 with
  | true =>
    rw [c] at hb
    exact rTfrrlrlll_st h hb
  | false =>
    rw [c] at hb
    exact rTfrrlrllr_st h hb
theorem rTfrrlrlrl_st {K : Nat → Nat} {n : Nat} {k : Nat} {vs : List jv} {j : Nat} {σ σ' : Nat → jcell} (h : ∀ a, a < n → ∀ q ∈ ra_dep.getD k [], q.1 = K a → aSm vs q (σ a) (σ' a)) (hb : rTfrrlrlrl K n k (vs.take j) σ) : rTfrrlrlrl K n k (vs.take j) σ' := by
  unfold rTfrrlrlrl at hb ⊢
  cases c : Nat.beq k 214 with
  | true =>
    rw [c] at hb
    obtain rfl := Nat.eq_of_beq_eq_true c
    exact rs_214 h hb
  | false =>
    rw [c] at hb
    exact hb.elim
theorem rTfrrlrlrr_st {K : Nat → Nat} {n : Nat} {k : Nat} {vs : List jv} {j : Nat} {σ σ' : Nat → jcell} (h : ∀ a, a < n → ∀ q ∈ ra_dep.getD k [], q.1 = K a → aSm vs q (σ a) (σ' a)) (hb : rTfrrlrlrr K n k (vs.take j) σ) : rTfrrlrlrr K n k (vs.take j) σ' := by
  unfold rTfrrlrlrr at hb ⊢
  cases c : Nat.beq k 215 with
  | true =>
    rw [c] at hb
    obtain rfl := Nat.eq_of_beq_eq_true c
    exact rs_215 h hb
  | false =>
    rw [c] at hb
    exact hb.elim
theorem rTfrrlrlr_st {K : Nat → Nat} {n : Nat} {k : Nat} {vs : List jv} {j : Nat} {σ σ' : Nat → jcell} (h : ∀ a, a < n → ∀ q ∈ ra_dep.getD k [], q.1 = K a → aSm vs q (σ a) (σ' a)) (hb : rTfrrlrlr K n k (vs.take j) σ) : rTfrrlrlr K n k (vs.take j) σ' := by
  unfold rTfrrlrlr at hb ⊢
  cases c : Nat.ble k 214 with
  | true =>
    rw [c] at hb
    exact rTfrrlrlrl_st h hb
  | false =>
    rw [c] at hb
    exact rTfrrlrlrr_st h hb
theorem rTfrrlrl_st {K : Nat → Nat} {n : Nat} {k : Nat} {vs : List jv} {j : Nat} {σ σ' : Nat → jcell} (h : ∀ a, a < n → ∀ q ∈ ra_dep.getD k [], q.1 = K a → aSm vs q (σ a) (σ' a)) (hb : rTfrrlrl K n k (vs.take j) σ) : rTfrrlrl K n k (vs.take j) σ' := by
  unfold rTfrrlrl at hb ⊢
  cases c : Nat.ble k 213 with
  | true =>
    rw [c] at hb
    exact rTfrrlrll_st h hb
  | false =>
    rw [c] at hb
    exact rTfrrlrlr_st h hb
theorem rTfrrlrrll_st {K : Nat → Nat} {n : Nat} {k : Nat} {vs : List jv} {j : Nat} {σ σ' : Nat → jcell} (h : ∀ a, a < n → ∀ q ∈ ra_dep.getD k [], q.1 = K a → aSm vs q (σ a) (σ' a)) (hb : rTfrrlrrll K n k (vs.take j) σ) : rTfrrlrrll K n k (vs.take j) σ' := by
  unfold rTfrrlrrll at hb ⊢
  cases c : Nat.beq k 216 with
  | true =>
    rw [c] at hb
    obtain rfl := Nat.eq_of_beq_eq_true c
    exact rs_216 h hb
  | false =>
    rw [c] at hb
    exact hb.elim
theorem rTfrrlrrlr_st {K : Nat → Nat} {n : Nat} {k : Nat} {vs : List jv} {j : Nat} {σ σ' : Nat → jcell} (h : ∀ a, a < n → ∀ q ∈ ra_dep.getD k [], q.1 = K a → aSm vs q (σ a) (σ' a)) (hb : rTfrrlrrlr K n k (vs.take j) σ) : rTfrrlrrlr K n k (vs.take j) σ' := by
  unfold rTfrrlrrlr at hb ⊢
  cases c : Nat.beq k 217 with
  | true =>
    rw [c] at hb
    obtain rfl := Nat.eq_of_beq_eq_true c
    exact rs_217 h hb
  | false =>
    rw [c] at hb
    exact hb.elim
theorem rTfrrlrrl_st {K : Nat → Nat} {n : Nat} {k : Nat} {vs : List jv} {j : Nat} {σ σ' : Nat → jcell} (h : ∀ a, a < n → ∀ q ∈ ra_dep.getD k [], q.1 = K a → aSm vs q (σ a) (σ' a)) (hb : rTfrrlrrl K n k (vs.take j) σ) : rTfrrlrrl K n k (vs.take j) σ' := by
  unfold rTfrrlrrl at hb ⊢
  cases c : Nat.ble k 216 with
  | true =>
    rw [c] at hb
    exact rTfrrlrrll_st h hb
  | false =>
    rw [c] at hb
    exact rTfrrlrrlr_st h hb
theorem rTfrrlrrrl_st {K : Nat → Nat} {n : Nat} {k : Nat} {vs : List jv} {j : Nat} {σ σ' : Nat → jcell} (h : ∀ a, a < n → ∀ q ∈ ra_dep.getD k [], q.1 = K a → aSm vs q (σ a) (σ' a)) (hb : rTfrrlrrrl K n k (vs.take j) σ) : rTfrrlrrrl K n k (vs.take j) σ' := by
  unfold rTfrrlrrrl at hb ⊢
  cases c : Nat.beq k 218 with
  | true =>
    rw [c] at hb
    obtain rfl := Nat.eq_of_beq_eq_true c
    exact rs_218 h hb
  | false =>
    rw [c] at hb
    exact hb.elim
theorem rTfrrlrrrr_st {K : Nat → Nat} {n : Nat} {k : Nat} {vs : List jv} {j : Nat} {σ σ' : Nat → jcell} (h : ∀ a, a < n → ∀ q ∈ ra_dep.getD k [], q.1 = K a → aSm vs q (σ a) (σ' a)) (hb : rTfrrlrrrr K n k (vs.take j) σ) : rTfrrlrrrr K n k (vs.take j) σ' := by
  unfold rTfrrlrrrr at hb ⊢
  cases c : Nat.beq k 219 with
  | true =>
    rw [c] at hb
    obtain rfl := Nat.eq_of_beq_eq_true c
    exact rs_219 h hb
  | false =>
    rw [c] at hb
    exact hb.elim
theorem rTfrrlrrr_st {K : Nat → Nat} {n : Nat} {k : Nat} {vs : List jv} {j : Nat} {σ σ' : Nat → jcell} (h : ∀ a, a < n → ∀ q ∈ ra_dep.getD k [], q.1 = K a → aSm vs q (σ a) (σ' a)) (hb : rTfrrlrrr K n k (vs.take j) σ) : rTfrrlrrr K n k (vs.take j) σ' := by
  unfold rTfrrlrrr at hb ⊢
  cases c : Nat.ble k 218 with
  | true =>
    rw [c] at hb
    exact rTfrrlrrrl_st h hb
  | false =>
    rw [c] at hb
    exact rTfrrlrrrr_st h hb
theorem rTfrrlrr_st {K : Nat → Nat} {n : Nat} {k : Nat} {vs : List jv} {j : Nat} {σ σ' : Nat → jcell} (h : ∀ a, a < n → ∀ q ∈ ra_dep.getD k [], q.1 = K a → aSm vs q (σ a) (σ' a)) (hb : rTfrrlrr K n k (vs.take j) σ) : rTfrrlrr K n k (vs.take j) σ' := by
  unfold rTfrrlrr at hb ⊢
  cases c : Nat.ble k 217 with
  | true =>
    rw [c] at hb
    exact rTfrrlrrl_st h hb
  | false =>
    rw [c] at hb
    exact rTfrrlrrr_st h hb
theorem rTfrrlr_st {K : Nat → Nat} {n : Nat} {k : Nat} {vs : List jv} {j : Nat} {σ σ' : Nat → jcell} (h : ∀ a, a < n → ∀ q ∈ ra_dep.getD k [], q.1 = K a → aSm vs q (σ a) (σ' a)) (hb : rTfrrlr K n k (vs.take j) σ) : rTfrrlr K n k (vs.take j) σ' := by
  unfold rTfrrlr at hb ⊢
  cases c : Nat.ble k 215 with
  | true =>
    rw [c] at hb
    exact rTfrrlrl_st h hb
  | false =>
    rw [c] at hb
    exact rTfrrlrr_st h hb
theorem rTfrrl_st {K : Nat → Nat} {n : Nat} {k : Nat} {vs : List jv} {j : Nat} {σ σ' : Nat → jcell} (h : ∀ a, a < n → ∀ q ∈ ra_dep.getD k [], q.1 = K a → aSm vs q (σ a) (σ' a)) (hb : rTfrrl K n k (vs.take j) σ) : rTfrrl K n k (vs.take j) σ' := by
  unfold rTfrrl at hb ⊢
  cases c : Nat.ble k 211 with
  | true =>
    rw [c] at hb
    exact rTfrrll_st h hb
  | false =>
    rw [c] at hb
    exact rTfrrlr_st h hb
theorem rTfrrrllll_st {K : Nat → Nat} {n : Nat} {k : Nat} {vs : List jv} {j : Nat} {σ σ' : Nat → jcell} (h : ∀ a, a < n → ∀ q ∈ ra_dep.getD k [], q.1 = K a → aSm vs q (σ a) (σ' a)) (hb : rTfrrrllll K n k (vs.take j) σ) : rTfrrrllll K n k (vs.take j) σ' := by
  unfold rTfrrrllll at hb ⊢
  cases c : Nat.beq k 220 with
  | true =>
    rw [c] at hb
    obtain rfl := Nat.eq_of_beq_eq_true c
    exact rs_220 h hb
  | false =>
    rw [c] at hb
    exact hb.elim
theorem rTfrrrlllr_st {K : Nat → Nat} {n : Nat} {k : Nat} {vs : List jv} {j : Nat} {σ σ' : Nat → jcell} (h : ∀ a, a < n → ∀ q ∈ ra_dep.getD k [], q.1 = K a → aSm vs q (σ a) (σ' a)) (hb : rTfrrrlllr K n k (vs.take j) σ) : rTfrrrlllr K n k (vs.take j) σ' := by
  unfold rTfrrrlllr at hb ⊢
  cases c : Nat.beq k 221 with
  | true =>
    rw [c] at hb
    obtain rfl := Nat.eq_of_beq_eq_true c
    exact rs_221 h hb
  | false =>
    rw [c] at hb
    exact hb.elim
theorem rTfrrrlll_st {K : Nat → Nat} {n : Nat} {k : Nat} {vs : List jv} {j : Nat} {σ σ' : Nat → jcell} (h : ∀ a, a < n → ∀ q ∈ ra_dep.getD k [], q.1 = K a → aSm vs q (σ a) (σ' a)) (hb : rTfrrrlll K n k (vs.take j) σ) : rTfrrrlll K n k (vs.take j) σ' := by
  unfold rTfrrrlll at hb ⊢
  cases c : Nat.ble k 220 with
  | true =>
    rw [c] at hb
    exact rTfrrrllll_st h hb
  | false =>
    rw [c] at hb
    exact rTfrrrlllr_st h hb
theorem rTfrrrllrl_st {K : Nat → Nat} {n : Nat} {k : Nat} {vs : List jv} {j : Nat} {σ σ' : Nat → jcell} (h : ∀ a, a < n → ∀ q ∈ ra_dep.getD k [], q.1 = K a → aSm vs q (σ a) (σ' a)) (hb : rTfrrrllrl K n k (vs.take j) σ) : rTfrrrllrl K n k (vs.take j) σ' := by
  unfold rTfrrrllrl at hb ⊢
  cases c : Nat.beq k 222 with
  | true =>
    rw [c] at hb
    obtain rfl := Nat.eq_of_beq_eq_true c
    exact rs_222 h hb
  | false =>
    rw [c] at hb
    exact hb.elim
theorem rTfrrrllrr_st {K : Nat → Nat} {n : Nat} {k : Nat} {vs : List jv} {j : Nat} {σ σ' : Nat → jcell} (h : ∀ a, a < n → ∀ q ∈ ra_dep.getD k [], q.1 = K a → aSm vs q (σ a) (σ' a)) (hb : rTfrrrllrr K n k (vs.take j) σ) : rTfrrrllrr K n k (vs.take j) σ' := by
  unfold rTfrrrllrr at hb ⊢
  cases c : Nat.beq k 223 with
  | true =>
    rw [c] at hb
    obtain rfl := Nat.eq_of_beq_eq_true c
    exact rs_223 h hb
  | false =>
    rw [c] at hb
    exact hb.elim
theorem rTfrrrllr_st {K : Nat → Nat} {n : Nat} {k : Nat} {vs : List jv} {j : Nat} {σ σ' : Nat → jcell} (h : ∀ a, a < n → ∀ q ∈ ra_dep.getD k [], q.1 = K a → aSm vs q (σ a) (σ' a)) (hb : rTfrrrllr K n k (vs.take j) σ) : rTfrrrllr K n k (vs.take j) σ' := by
  unfold rTfrrrllr at hb ⊢
  cases c : Nat.ble k 222 with
  | true =>
    rw [c] at hb
    exact rTfrrrllrl_st h hb
  | false =>
    rw [c] at hb
    exact rTfrrrllrr_st h hb
theorem rTfrrrll_st {K : Nat → Nat} {n : Nat} {k : Nat} {vs : List jv} {j : Nat} {σ σ' : Nat → jcell} (h : ∀ a, a < n → ∀ q ∈ ra_dep.getD k [], q.1 = K a → aSm vs q (σ a) (σ' a)) (hb : rTfrrrll K n k (vs.take j) σ) : rTfrrrll K n k (vs.take j) σ' := by
  unfold rTfrrrll at hb ⊢
  cases c : Nat.ble k 221 with
  | true =>
    rw [c] at hb
    exact rTfrrrlll_st h hb
  | false =>
    rw [c] at hb
    exact rTfrrrllr_st h hb
theorem rTfrrrlrll_st {K : Nat → Nat} {n : Nat} {k : Nat} {vs : List jv} {j : Nat} {σ σ' : Nat → jcell} (h : ∀ a, a < n → ∀ q ∈ ra_dep.getD k [], q.1 = K a → aSm vs q (σ a) (σ' a)) (hb : rTfrrrlrll K n k (vs.take j) σ) : rTfrrrlrll K n k (vs.take j) σ' := by
  unfold rTfrrrlrll at hb ⊢
  cases c : Nat.beq k 224 with
  | true =>
    rw [c] at hb
    obtain rfl := Nat.eq_of_beq_eq_true c
    exact rs_224 h hb
  | false =>
    rw [c] at hb
    exact hb.elim
theorem rTfrrrlrlr_st {K : Nat → Nat} {n : Nat} {k : Nat} {vs : List jv} {j : Nat} {σ σ' : Nat → jcell} (h : ∀ a, a < n → ∀ q ∈ ra_dep.getD k [], q.1 = K a → aSm vs q (σ a) (σ' a)) (hb : rTfrrrlrlr K n k (vs.take j) σ) : rTfrrrlrlr K n k (vs.take j) σ' := by
  unfold rTfrrrlrlr at hb ⊢
  cases c : Nat.beq k 225 with
  | true =>
    rw [c] at hb
    obtain rfl := Nat.eq_of_beq_eq_true c
    exact rs_225 h hb
  | false =>
    rw [c] at hb
    exact hb.elim
theorem rTfrrrlrl_st {K : Nat → Nat} {n : Nat} {k : Nat} {vs : List jv} {j : Nat} {σ σ' : Nat → jcell} (h : ∀ a, a < n → ∀ q ∈ ra_dep.getD k [], q.1 = K a → aSm vs q (σ a) (σ' a)) (hb : rTfrrrlrl K n k (vs.take j) σ) : rTfrrrlrl K n k (vs.take j) σ' := by
  unfold rTfrrrlrl at hb ⊢
  cases c : Nat.ble k 224 with
  | true =>
    rw [c] at hb
    exact rTfrrrlrll_st h hb
  | false =>
    rw [c] at hb
    exact rTfrrrlrlr_st h hb
theorem rTfrrrlrrl_st {K : Nat → Nat} {n : Nat} {k : Nat} {vs : List jv} {j : Nat} {σ σ' : Nat → jcell} (h : ∀ a, a < n → ∀ q ∈ ra_dep.getD k [], q.1 = K a → aSm vs q (σ a) (σ' a)) (hb : rTfrrrlrrl K n k (vs.take j) σ) : rTfrrrlrrl K n k (vs.take j) σ' := by
  unfold rTfrrrlrrl at hb ⊢
  cases c : Nat.beq k 226 with
  | true =>
    rw [c] at hb
    obtain rfl := Nat.eq_of_beq_eq_true c
    exact rs_226 h hb
  | false =>
    rw [c] at hb
    exact hb.elim
theorem rTfrrrlrrr_st {K : Nat → Nat} {n : Nat} {k : Nat} {vs : List jv} {j : Nat} {σ σ' : Nat → jcell} (h : ∀ a, a < n → ∀ q ∈ ra_dep.getD k [], q.1 = K a → aSm vs q (σ a) (σ' a)) (hb : rTfrrrlrrr K n k (vs.take j) σ) : rTfrrrlrrr K n k (vs.take j) σ' := by
  unfold rTfrrrlrrr at hb ⊢
  cases c : Nat.beq k 227 with
  | true =>
    rw [c] at hb
    obtain rfl := Nat.eq_of_beq_eq_true c
    exact rs_227 h hb
  | false =>
    rw [c] at hb
    exact hb.elim
theorem rTfrrrlrr_st {K : Nat → Nat} {n : Nat} {k : Nat} {vs : List jv} {j : Nat} {σ σ' : Nat → jcell} (h : ∀ a, a < n → ∀ q ∈ ra_dep.getD k [], q.1 = K a → aSm vs q (σ a) (σ' a)) (hb : rTfrrrlrr K n k (vs.take j) σ) : rTfrrrlrr K n k (vs.take j) σ' := by
  unfold rTfrrrlrr at hb ⊢
  cases c : Nat.ble k 226 with
  | true =>
    rw [c] at hb
    exact rTfrrrlrrl_st h hb
  | false =>
    rw [c] at hb
    exact rTfrrrlrrr_st h hb
theorem rTfrrrlr_st {K : Nat → Nat} {n : Nat} {k : Nat} {vs : List jv} {j : Nat} {σ σ' : Nat → jcell} (h : ∀ a, a < n → ∀ q ∈ ra_dep.getD k [], q.1 = K a → aSm vs q (σ a) (σ' a)) (hb : rTfrrrlr K n k (vs.take j) σ) : rTfrrrlr K n k (vs.take j) σ' := by
  unfold rTfrrrlr at hb ⊢
  cases c : Nat.ble k 225 with
  | true =>
    rw [c] at hb
    exact rTfrrrlrl_st h hb
  | false =>
    rw [c] at hb
    exact rTfrrrlrr_st h hb
theorem rTfrrrl_st {K : Nat → Nat} {n : Nat} {k : Nat} {vs : List jv} {j : Nat} {σ σ' : Nat → jcell} (h : ∀ a, a < n → ∀ q ∈ ra_dep.getD k [], q.1 = K a → aSm vs q (σ a) (σ' a)) (hb : rTfrrrl K n k (vs.take j) σ) : rTfrrrl K n k (vs.take j) σ' := by
  unfold rTfrrrl at hb ⊢
  cases c : Nat.ble k 223 with
  | true =>
    rw [c] at hb
    exact rTfrrrll_st h hb
  | false =>
    rw [c] at hb
    exact rTfrrrlr_st h hb
theorem rTfrrrrlll_st {K : Nat → Nat} {n : Nat} {k : Nat} {vs : List jv} {j : Nat} {σ σ' : Nat → jcell} (h : ∀ a, a < n → ∀ q ∈ ra_dep.getD k [], q.1 = K a → aSm vs q (σ a) (σ' a)) (hb : rTfrrrrlll K n k (vs.take j) σ) : rTfrrrrlll K n k (vs.take j) σ' := by
  unfold rTfrrrrlll at hb ⊢
  cases c : Nat.beq k 228 with
  | true =>
    rw [c] at hb
    obtain rfl := Nat.eq_of_beq_eq_true c
    exact rs_228 h hb
  | false =>
    rw [c] at hb
    exact hb.elim
theorem rTfrrrrllr_st {K : Nat → Nat} {n : Nat} {k : Nat} {vs : List jv} {j : Nat} {σ σ' : Nat → jcell} (h : ∀ a, a < n → ∀ q ∈ ra_dep.getD k [], q.1 = K a → aSm vs q (σ a) (σ' a)) (hb : rTfrrrrllr K n k (vs.take j) σ) : rTfrrrrllr K n k (vs.take j) σ' := by
  unfold rTfrrrrllr at hb ⊢
  cases c : Nat.beq k 230 with
  | true =>
    rw [c] at hb
    obtain rfl := Nat.eq_of_beq_eq_true c
    exact rs_230 h hb
  | false =>
    rw [c] at hb
    exact hb.elim
theorem rTfrrrrll_st {K : Nat → Nat} {n : Nat} {k : Nat} {vs : List jv} {j : Nat} {σ σ' : Nat → jcell} (h : ∀ a, a < n → ∀ q ∈ ra_dep.getD k [], q.1 = K a → aSm vs q (σ a) (σ' a)) (hb : rTfrrrrll K n k (vs.take j) σ) : rTfrrrrll K n k (vs.take j) σ' := by
  unfold rTfrrrrll at hb ⊢
  cases c : Nat.ble k 228 with
  | true =>
    rw [c] at hb
    exact rTfrrrrlll_st h hb
  | false =>
    rw [c] at hb
    exact rTfrrrrllr_st h hb
theorem rTfrrrrlrl_st {K : Nat → Nat} {n : Nat} {k : Nat} {vs : List jv} {j : Nat} {σ σ' : Nat → jcell} (h : ∀ a, a < n → ∀ q ∈ ra_dep.getD k [], q.1 = K a → aSm vs q (σ a) (σ' a)) (hb : rTfrrrrlrl K n k (vs.take j) σ) : rTfrrrrlrl K n k (vs.take j) σ' := by
  unfold rTfrrrrlrl at hb ⊢
  cases c : Nat.beq k 231 with
  | true =>
    rw [c] at hb
    obtain rfl := Nat.eq_of_beq_eq_true c
    exact rs_231 h hb
  | false =>
    rw [c] at hb
    exact hb.elim
theorem rTfrrrrlrr_st {K : Nat → Nat} {n : Nat} {k : Nat} {vs : List jv} {j : Nat} {σ σ' : Nat → jcell} (h : ∀ a, a < n → ∀ q ∈ ra_dep.getD k [], q.1 = K a → aSm vs q (σ a) (σ' a)) (hb : rTfrrrrlrr K n k (vs.take j) σ) : rTfrrrrlrr K n k (vs.take j) σ' := by
  unfold rTfrrrrlrr at hb ⊢
  cases c : Nat.beq k 232 with
  | true =>
    rw [c] at hb
    obtain rfl := Nat.eq_of_beq_eq_true c
    exact rs_232 h hb
  | false =>
    rw [c] at hb
    exact hb.elim
theorem rTfrrrrlr_st {K : Nat → Nat} {n : Nat} {k : Nat} {vs : List jv} {j : Nat} {σ σ' : Nat → jcell} (h : ∀ a, a < n → ∀ q ∈ ra_dep.getD k [], q.1 = K a → aSm vs q (σ a) (σ' a)) (hb : rTfrrrrlr K n k (vs.take j) σ) : rTfrrrrlr K n k (vs.take j) σ' := by
  unfold rTfrrrrlr at hb ⊢
  cases c : Nat.ble k 231 with
  | true =>
    rw [c] at hb
    exact rTfrrrrlrl_st h hb
  | false =>
    rw [c] at hb
    exact rTfrrrrlrr_st h hb
theorem rTfrrrrl_st {K : Nat → Nat} {n : Nat} {k : Nat} {vs : List jv} {j : Nat} {σ σ' : Nat → jcell} (h : ∀ a, a < n → ∀ q ∈ ra_dep.getD k [], q.1 = K a → aSm vs q (σ a) (σ' a)) (hb : rTfrrrrl K n k (vs.take j) σ) : rTfrrrrl K n k (vs.take j) σ' := by
  unfold rTfrrrrl at hb ⊢
  cases c : Nat.ble k 230 with
  | true =>
    rw [c] at hb
    exact rTfrrrrll_st h hb
  | false =>
    rw [c] at hb
    exact rTfrrrrlr_st h hb
theorem rTfrrrrrll_st {K : Nat → Nat} {n : Nat} {k : Nat} {vs : List jv} {j : Nat} {σ σ' : Nat → jcell} (h : ∀ a, a < n → ∀ q ∈ ra_dep.getD k [], q.1 = K a → aSm vs q (σ a) (σ' a)) (hb : rTfrrrrrll K n k (vs.take j) σ) : rTfrrrrrll K n k (vs.take j) σ' := by
  unfold rTfrrrrrll at hb ⊢
  cases c : Nat.beq k 233 with
  | true =>
    rw [c] at hb
    obtain rfl := Nat.eq_of_beq_eq_true c
    exact rs_233 h hb
  | false =>
    rw [c] at hb
    exact hb.elim
theorem rTfrrrrrlr_st {K : Nat → Nat} {n : Nat} {k : Nat} {vs : List jv} {j : Nat} {σ σ' : Nat → jcell} (h : ∀ a, a < n → ∀ q ∈ ra_dep.getD k [], q.1 = K a → aSm vs q (σ a) (σ' a)) (hb : rTfrrrrrlr K n k (vs.take j) σ) : rTfrrrrrlr K n k (vs.take j) σ' := by
  unfold rTfrrrrrlr at hb ⊢
  cases c : Nat.beq k 234 with
  | true =>
    rw [c] at hb
    obtain rfl := Nat.eq_of_beq_eq_true c
    exact rs_234 h hb
  | false =>
    rw [c] at hb
    exact hb.elim
theorem rTfrrrrrl_st {K : Nat → Nat} {n : Nat} {k : Nat} {vs : List jv} {j : Nat} {σ σ' : Nat → jcell} (h : ∀ a, a < n → ∀ q ∈ ra_dep.getD k [], q.1 = K a → aSm vs q (σ a) (σ' a)) (hb : rTfrrrrrl K n k (vs.take j) σ) : rTfrrrrrl K n k (vs.take j) σ' := by
  unfold rTfrrrrrl at hb ⊢
  cases c : Nat.ble k 233 with
  | true =>
    rw [c] at hb
    exact rTfrrrrrll_st h hb
  | false =>
    rw [c] at hb
    exact rTfrrrrrlr_st h hb
theorem rTfrrrrrrl_st {K : Nat → Nat} {n : Nat} {k : Nat} {vs : List jv} {j : Nat} {σ σ' : Nat → jcell} (h : ∀ a, a < n → ∀ q ∈ ra_dep.getD k [], q.1 = K a → aSm vs q (σ a) (σ' a)) (hb : rTfrrrrrrl K n k (vs.take j) σ) : rTfrrrrrrl K n k (vs.take j) σ' := by
  unfold rTfrrrrrrl at hb ⊢
  cases c : Nat.beq k 235 with
  | true =>
    rw [c] at hb
    obtain rfl := Nat.eq_of_beq_eq_true c
    exact rs_235 h hb
  | false =>
    rw [c] at hb
    exact hb.elim
theorem rTfrrrrrrr_st {K : Nat → Nat} {n : Nat} {k : Nat} {vs : List jv} {j : Nat} {σ σ' : Nat → jcell} (h : ∀ a, a < n → ∀ q ∈ ra_dep.getD k [], q.1 = K a → aSm vs q (σ a) (σ' a)) (hb : rTfrrrrrrr K n k (vs.take j) σ) : rTfrrrrrrr K n k (vs.take j) σ' := by
  unfold rTfrrrrrrr at hb ⊢
  cases c : Nat.beq k 236 with
  | true =>
    rw [c] at hb
    obtain rfl := Nat.eq_of_beq_eq_true c
    exact rs_236 h hb
  | false =>
    rw [c] at hb
    exact hb.elim
theorem rTfrrrrrr_st {K : Nat → Nat} {n : Nat} {k : Nat} {vs : List jv} {j : Nat} {σ σ' : Nat → jcell} (h : ∀ a, a < n → ∀ q ∈ ra_dep.getD k [], q.1 = K a → aSm vs q (σ a) (σ' a)) (hb : rTfrrrrrr K n k (vs.take j) σ) : rTfrrrrrr K n k (vs.take j) σ' := by
  unfold rTfrrrrrr at hb ⊢
  cases c : Nat.ble k 235 with
  | true =>
    rw [c] at hb
    exact rTfrrrrrrl_st h hb
  | false =>
    rw [c] at hb
    exact rTfrrrrrrr_st h hb
theorem rTfrrrrr_st {K : Nat → Nat} {n : Nat} {k : Nat} {vs : List jv} {j : Nat} {σ σ' : Nat → jcell} (h : ∀ a, a < n → ∀ q ∈ ra_dep.getD k [], q.1 = K a → aSm vs q (σ a) (σ' a)) (hb : rTfrrrrr K n k (vs.take j) σ) : rTfrrrrr K n k (vs.take j) σ' := by
  unfold rTfrrrrr at hb ⊢
  cases c : Nat.ble k 234 with
  | true =>
    rw [c] at hb
    exact rTfrrrrrl_st h hb
  | false =>
    rw [c] at hb
    exact rTfrrrrrr_st h hb
theorem rTfrrrr_st {K : Nat → Nat} {n : Nat} {k : Nat} {vs : List jv} {j : Nat} {σ σ' : Nat → jcell} (h : ∀ a, a < n → ∀ q ∈ ra_dep.getD k [], q.1 = K a → aSm vs q (σ a) (σ' a)) (hb : rTfrrrr K n k (vs.take j) σ) : rTfrrrr K n k (vs.take j) σ' := by
  unfold rTfrrrr at hb ⊢
  cases c : Nat.ble k 232 with
  | true =>
    rw [c] at hb
    exact rTfrrrrl_st h hb
  | false =>
    rw [c] at hb
    exact rTfrrrrr_st h hb
theorem rTfrrr_st {K : Nat → Nat} {n : Nat} {k : Nat} {vs : List jv} {j : Nat} {σ σ' : Nat → jcell} (h : ∀ a, a < n → ∀ q ∈ ra_dep.getD k [], q.1 = K a → aSm vs q (σ a) (σ' a)) (hb : rTfrrr K n k (vs.take j) σ) : rTfrrr K n k (vs.take j) σ' := by
  unfold rTfrrr at hb ⊢
  cases c : Nat.ble k 227 with
  | true =>
    rw [c] at hb
    exact rTfrrrl_st h hb
  | false =>
    rw [c] at hb
    exact rTfrrrr_st h hb
theorem rTfrr_st {K : Nat → Nat} {n : Nat} {k : Nat} {vs : List jv} {j : Nat} {σ σ' : Nat → jcell} (h : ∀ a, a < n → ∀ q ∈ ra_dep.getD k [], q.1 = K a → aSm vs q (σ a) (σ' a)) (hb : rTfrr K n k (vs.take j) σ) : rTfrr K n k (vs.take j) σ' := by
  unfold rTfrr at hb ⊢
  cases c : Nat.ble k 219 with
  | true =>
    rw [c] at hb
    exact rTfrrl_st h hb
  | false =>
    rw [c] at hb
    exact rTfrrr_st h hb
theorem rTfr_st {K : Nat → Nat} {n : Nat} {k : Nat} {vs : List jv} {j : Nat} {σ σ' : Nat → jcell} (h : ∀ a, a < n → ∀ q ∈ ra_dep.getD k [], q.1 = K a → aSm vs q (σ a) (σ' a)) (hb : rTfr K n k (vs.take j) σ) : rTfr K n k (vs.take j) σ' := by
  unfold rTfr at hb ⊢
  cases c : Nat.ble k 203 with
  | true =>
    rw [c] at hb
    exact rTfrl_st h hb
  | false =>
    rw [c] at hb
    exact rTfrr_st h hb
theorem rTf_st {K : Nat → Nat} {n : Nat} {k : Nat} {vs : List jv} {j : Nat} {σ σ' : Nat → jcell} (h : ∀ a, a < n → ∀ q ∈ ra_dep.getD k [], q.1 = K a → aSm vs q (σ a) (σ' a)) (hb : rTf K n k (vs.take j) σ) : rTf K n k (vs.take j) σ' := by
  unfold rTf at hb ⊢
  cases c : Nat.ble k 168 with
  | true =>
    rw [c] at hb
    exact rTfl_st h hb
  | false =>
    rw [c] at hb
    exact rTfr_st h hb
theorem rTgllllll_st {K : Nat → Nat} {n : Nat} {p : rP} {k : Nat} {vs : List jv} {j : Nat} {σ σ' : Nat → jcell} (h : ∀ a, a < n → ∀ q ∈ ra_dep.getD k [], q.1 = K a → aSm vs q (σ a) (σ' a)) (hb : rTgllllll K n p k (vs.take j) σ) : rTgllllll K n p k (vs.take j) σ' := by
  unfold rTgllllll at hb ⊢
  cases c : Nat.beq k 22 with
  | true =>
    rw [c] at hb
    obtain rfl := Nat.eq_of_beq_eq_true c
    exact rs_22 (p := p) h hb
  | false =>
    rw [c] at hb
    exact hb.elim
theorem rTglllllrl_st {K : Nat → Nat} {n : Nat} {p : rP} {k : Nat} {vs : List jv} {j : Nat} {σ σ' : Nat → jcell} (h : ∀ a, a < n → ∀ q ∈ ra_dep.getD k [], q.1 = K a → aSm vs q (σ a) (σ' a)) (hb : rTglllllrl K n p k (vs.take j) σ) : rTglllllrl K n p k (vs.take j) σ' := by
  unfold rTglllllrl at hb ⊢
  cases c : Nat.beq k 23 with
  | true =>
    rw [c] at hb
    obtain rfl := Nat.eq_of_beq_eq_true c
    exact rs_23 (p := p) h hb
  | false =>
    rw [c] at hb
    exact hb.elim
theorem rTglllllrr_st {K : Nat → Nat} {n : Nat} {p : rP} {k : Nat} {vs : List jv} {j : Nat} {σ σ' : Nat → jcell} (h : ∀ a, a < n → ∀ q ∈ ra_dep.getD k [], q.1 = K a → aSm vs q (σ a) (σ' a)) (hb : rTglllllrr K n p k (vs.take j) σ) : rTglllllrr K n p k (vs.take j) σ' := by
  unfold rTglllllrr at hb ⊢
  cases c : Nat.beq k 24 with
  | true =>
    rw [c] at hb
    obtain rfl := Nat.eq_of_beq_eq_true c
    exact rs_24 (p := p) h hb
  | false =>
    rw [c] at hb
    exact hb.elim
theorem rTglllllr_st {K : Nat → Nat} {n : Nat} {p : rP} {k : Nat} {vs : List jv} {j : Nat} {σ σ' : Nat → jcell} (h : ∀ a, a < n → ∀ q ∈ ra_dep.getD k [], q.1 = K a → aSm vs q (σ a) (σ' a)) (hb : rTglllllr K n p k (vs.take j) σ) : rTglllllr K n p k (vs.take j) σ' := by
  unfold rTglllllr at hb ⊢
  cases c : Nat.ble k 23 with
  | true =>
    rw [c] at hb
    exact rTglllllrl_st h hb
  | false =>
    rw [c] at hb
    exact rTglllllrr_st h hb
theorem rTglllll_st {K : Nat → Nat} {n : Nat} {p : rP} {k : Nat} {vs : List jv} {j : Nat} {σ σ' : Nat → jcell} (h : ∀ a, a < n → ∀ q ∈ ra_dep.getD k [], q.1 = K a → aSm vs q (σ a) (σ' a)) (hb : rTglllll K n p k (vs.take j) σ) : rTglllll K n p k (vs.take j) σ' := by
  unfold rTglllll at hb ⊢
  cases c : Nat.ble k 22 with
  | true =>
    rw [c] at hb
    exact rTgllllll_st h hb
  | false =>
    rw [c] at hb
    exact rTglllllr_st h hb
theorem rTgllllrll_st {K : Nat → Nat} {n : Nat} {p : rP} {k : Nat} {vs : List jv} {j : Nat} {σ σ' : Nat → jcell} (h : ∀ a, a < n → ∀ q ∈ ra_dep.getD k [], q.1 = K a → aSm vs q (σ a) (σ' a)) (hb : rTgllllrll K n p k (vs.take j) σ) : rTgllllrll K n p k (vs.take j) σ' := by
  unfold rTgllllrll at hb ⊢
  cases c : Nat.beq k 25 with
  | true =>
    rw [c] at hb
    obtain rfl := Nat.eq_of_beq_eq_true c
    exact rs_25 (p := p) h hb
  | false =>
    rw [c] at hb
    exact hb.elim
theorem rTgllllrlr_st {K : Nat → Nat} {n : Nat} {p : rP} {k : Nat} {vs : List jv} {j : Nat} {σ σ' : Nat → jcell} (h : ∀ a, a < n → ∀ q ∈ ra_dep.getD k [], q.1 = K a → aSm vs q (σ a) (σ' a)) (hb : rTgllllrlr K n p k (vs.take j) σ) : rTgllllrlr K n p k (vs.take j) σ' := by
  unfold rTgllllrlr at hb ⊢
  cases c : Nat.beq k 26 with
  | true =>
    rw [c] at hb
    obtain rfl := Nat.eq_of_beq_eq_true c
    exact rs_26 (p := p) h hb
  | false =>
    rw [c] at hb
    exact hb.elim
theorem rTgllllrl_st {K : Nat → Nat} {n : Nat} {p : rP} {k : Nat} {vs : List jv} {j : Nat} {σ σ' : Nat → jcell} (h : ∀ a, a < n → ∀ q ∈ ra_dep.getD k [], q.1 = K a → aSm vs q (σ a) (σ' a)) (hb : rTgllllrl K n p k (vs.take j) σ) : rTgllllrl K n p k (vs.take j) σ' := by
  unfold rTgllllrl at hb ⊢
  cases c : Nat.ble k 25 with
  | true =>
    rw [c] at hb
    exact rTgllllrll_st h hb
  | false =>
    rw [c] at hb
    exact rTgllllrlr_st h hb
theorem rTgllllrrl_st {K : Nat → Nat} {n : Nat} {p : rP} {k : Nat} {vs : List jv} {j : Nat} {σ σ' : Nat → jcell} (h : ∀ a, a < n → ∀ q ∈ ra_dep.getD k [], q.1 = K a → aSm vs q (σ a) (σ' a)) (hb : rTgllllrrl K n p k (vs.take j) σ) : rTgllllrrl K n p k (vs.take j) σ' := by
  unfold rTgllllrrl at hb ⊢
  cases c : Nat.beq k 27 with
  | true =>
    rw [c] at hb
    obtain rfl := Nat.eq_of_beq_eq_true c
    exact rs_27 (p := p) h hb
  | false =>
    rw [c] at hb
    exact hb.elim
theorem rTgllllrrr_st {K : Nat → Nat} {n : Nat} {p : rP} {k : Nat} {vs : List jv} {j : Nat} {σ σ' : Nat → jcell} (h : ∀ a, a < n → ∀ q ∈ ra_dep.getD k [], q.1 = K a → aSm vs q (σ a) (σ' a)) (hb : rTgllllrrr K n p k (vs.take j) σ) : rTgllllrrr K n p k (vs.take j) σ' := by
  unfold rTgllllrrr at hb ⊢
  cases c : Nat.beq k 28 with
  | true =>
    rw [c] at hb
    obtain rfl := Nat.eq_of_beq_eq_true c
    exact rs_28 (p := p) h hb
  | false =>
    rw [c] at hb
    exact hb.elim
theorem rTgllllrr_st {K : Nat → Nat} {n : Nat} {p : rP} {k : Nat} {vs : List jv} {j : Nat} {σ σ' : Nat → jcell} (h : ∀ a, a < n → ∀ q ∈ ra_dep.getD k [], q.1 = K a → aSm vs q (σ a) (σ' a)) (hb : rTgllllrr K n p k (vs.take j) σ) : rTgllllrr K n p k (vs.take j) σ' := by
  unfold rTgllllrr at hb ⊢
  cases c : Nat.ble k 27 with
  | true =>
    rw [c] at hb
    exact rTgllllrrl_st h hb
  | false =>
    rw [c] at hb
    exact rTgllllrrr_st h hb
theorem rTgllllr_st {K : Nat → Nat} {n : Nat} {p : rP} {k : Nat} {vs : List jv} {j : Nat} {σ σ' : Nat → jcell} (h : ∀ a, a < n → ∀ q ∈ ra_dep.getD k [], q.1 = K a → aSm vs q (σ a) (σ' a)) (hb : rTgllllr K n p k (vs.take j) σ) : rTgllllr K n p k (vs.take j) σ' := by
  unfold rTgllllr at hb ⊢
  cases c : Nat.ble k 26 with
  | true =>
    rw [c] at hb
    exact rTgllllrl_st h hb
  | false =>
    rw [c] at hb
    exact rTgllllrr_st h hb
theorem rTgllll_st {K : Nat → Nat} {n : Nat} {p : rP} {k : Nat} {vs : List jv} {j : Nat} {σ σ' : Nat → jcell} (h : ∀ a, a < n → ∀ q ∈ ra_dep.getD k [], q.1 = K a → aSm vs q (σ a) (σ' a)) (hb : rTgllll K n p k (vs.take j) σ) : rTgllll K n p k (vs.take j) σ' := by
  unfold rTgllll at hb ⊢
  cases c : Nat.ble k 24 with
  | true =>
    rw [c] at hb
    exact rTglllll_st h hb
  | false =>
    rw [c] at hb
    exact rTgllllr_st h hb
theorem rTglllrlll_st {K : Nat → Nat} {n : Nat} {p : rP} {k : Nat} {vs : List jv} {j : Nat} {σ σ' : Nat → jcell} (h : ∀ a, a < n → ∀ q ∈ ra_dep.getD k [], q.1 = K a → aSm vs q (σ a) (σ' a)) (hb : rTglllrlll K n p k (vs.take j) σ) : rTglllrlll K n p k (vs.take j) σ' := by
  unfold rTglllrlll at hb ⊢
  cases c : Nat.beq k 29 with
  | true =>
    rw [c] at hb
    obtain rfl := Nat.eq_of_beq_eq_true c
    exact rs_29 (p := p) h hb
  | false =>
    rw [c] at hb
    exact hb.elim
theorem rTglllrllr_st {K : Nat → Nat} {n : Nat} {p : rP} {k : Nat} {vs : List jv} {j : Nat} {σ σ' : Nat → jcell} (h : ∀ a, a < n → ∀ q ∈ ra_dep.getD k [], q.1 = K a → aSm vs q (σ a) (σ' a)) (hb : rTglllrllr K n p k (vs.take j) σ) : rTglllrllr K n p k (vs.take j) σ' := by
  unfold rTglllrllr at hb ⊢
  cases c : Nat.beq k 30 with
  | true =>
    rw [c] at hb
    obtain rfl := Nat.eq_of_beq_eq_true c
    exact rs_30 (p := p) h hb
  | false =>
    rw [c] at hb
    exact hb.elim
theorem rTglllrll_st {K : Nat → Nat} {n : Nat} {p : rP} {k : Nat} {vs : List jv} {j : Nat} {σ σ' : Nat → jcell} (h : ∀ a, a < n → ∀ q ∈ ra_dep.getD k [], q.1 = K a → aSm vs q (σ a) (σ' a)) (hb : rTglllrll K n p k (vs.take j) σ) : rTglllrll K n p k (vs.take j) σ' := by
  unfold rTglllrll at hb ⊢
  cases c : Nat.ble k 29 with
  | true =>
    rw [c] at hb
    exact rTglllrlll_st h hb
  | false =>
    rw [c] at hb
    exact rTglllrllr_st h hb
theorem rTglllrlrl_st {K : Nat → Nat} {n : Nat} {p : rP} {k : Nat} {vs : List jv} {j : Nat} {σ σ' : Nat → jcell} (h : ∀ a, a < n → ∀ q ∈ ra_dep.getD k [], q.1 = K a → aSm vs q (σ a) (σ' a)) (hb : rTglllrlrl K n p k (vs.take j) σ) : rTglllrlrl K n p k (vs.take j) σ' := by
  unfold rTglllrlrl at hb ⊢
  cases c : Nat.beq k 31 with
  | true =>
    rw [c] at hb
    obtain rfl := Nat.eq_of_beq_eq_true c
    exact rs_31 (p := p) h hb
  | false =>
    rw [c] at hb
    exact hb.elim
theorem rTglllrlrr_st {K : Nat → Nat} {n : Nat} {p : rP} {k : Nat} {vs : List jv} {j : Nat} {σ σ' : Nat → jcell} (h : ∀ a, a < n → ∀ q ∈ ra_dep.getD k [], q.1 = K a → aSm vs q (σ a) (σ' a)) (hb : rTglllrlrr K n p k (vs.take j) σ) : rTglllrlrr K n p k (vs.take j) σ' := by
  unfold rTglllrlrr at hb ⊢
  cases c : Nat.beq k 32 with
  | true =>
    rw [c] at hb
    obtain rfl := Nat.eq_of_beq_eq_true c
    exact rs_32 (p := p) h hb
  | false =>
    rw [c] at hb
    exact hb.elim
theorem rTglllrlr_st {K : Nat → Nat} {n : Nat} {p : rP} {k : Nat} {vs : List jv} {j : Nat} {σ σ' : Nat → jcell} (h : ∀ a, a < n → ∀ q ∈ ra_dep.getD k [], q.1 = K a → aSm vs q (σ a) (σ' a)) (hb : rTglllrlr K n p k (vs.take j) σ) : rTglllrlr K n p k (vs.take j) σ' := by
  unfold rTglllrlr at hb ⊢
  cases c : Nat.ble k 31 with
  | true =>
    rw [c] at hb
    exact rTglllrlrl_st h hb
  | false =>
    rw [c] at hb
    exact rTglllrlrr_st h hb
theorem rTglllrl_st {K : Nat → Nat} {n : Nat} {p : rP} {k : Nat} {vs : List jv} {j : Nat} {σ σ' : Nat → jcell} (h : ∀ a, a < n → ∀ q ∈ ra_dep.getD k [], q.1 = K a → aSm vs q (σ a) (σ' a)) (hb : rTglllrl K n p k (vs.take j) σ) : rTglllrl K n p k (vs.take j) σ' := by
  unfold rTglllrl at hb ⊢
  cases c : Nat.ble k 30 with
  | true =>
    rw [c] at hb
    exact rTglllrll_st h hb
  | false =>
    rw [c] at hb
    exact rTglllrlr_st h hb
theorem rTglllrrll_st {K : Nat → Nat} {n : Nat} {p : rP} {k : Nat} {vs : List jv} {j : Nat} {σ σ' : Nat → jcell} (h : ∀ a, a < n → ∀ q ∈ ra_dep.getD k [], q.1 = K a → aSm vs q (σ a) (σ' a)) (hb : rTglllrrll K n p k (vs.take j) σ) : rTglllrrll K n p k (vs.take j) σ' := by
  unfold rTglllrrll at hb ⊢
  cases c : Nat.beq k 33 with
  | true =>
    rw [c] at hb
    obtain rfl := Nat.eq_of_beq_eq_true c
    exact rs_33 (p := p) h hb
  | false =>
    rw [c] at hb
    exact hb.elim
theorem rTglllrrlr_st {K : Nat → Nat} {n : Nat} {p : rP} {k : Nat} {vs : List jv} {j : Nat} {σ σ' : Nat → jcell} (h : ∀ a, a < n → ∀ q ∈ ra_dep.getD k [], q.1 = K a → aSm vs q (σ a) (σ' a)) (hb : rTglllrrlr K n p k (vs.take j) σ) : rTglllrrlr K n p k (vs.take j) σ' := by
  unfold rTglllrrlr at hb ⊢
  cases c : Nat.beq k 34 with
  | true =>
    rw [c] at hb
    obtain rfl := Nat.eq_of_beq_eq_true c
    exact rs_34 (p := p) h hb
  | false =>
    rw [c] at hb
    exact hb.elim
theorem rTglllrrl_st {K : Nat → Nat} {n : Nat} {p : rP} {k : Nat} {vs : List jv} {j : Nat} {σ σ' : Nat → jcell} (h : ∀ a, a < n → ∀ q ∈ ra_dep.getD k [], q.1 = K a → aSm vs q (σ a) (σ' a)) (hb : rTglllrrl K n p k (vs.take j) σ) : rTglllrrl K n p k (vs.take j) σ' := by
  unfold rTglllrrl at hb ⊢
  cases c : Nat.ble k 33 with
  | true =>
    rw [c] at hb
    exact rTglllrrll_st h hb
  | false =>
    rw [c] at hb
    exact rTglllrrlr_st h hb
theorem rTglllrrrl_st {K : Nat → Nat} {n : Nat} {p : rP} {k : Nat} {vs : List jv} {j : Nat} {σ σ' : Nat → jcell} (h : ∀ a, a < n → ∀ q ∈ ra_dep.getD k [], q.1 = K a → aSm vs q (σ a) (σ' a)) (hb : rTglllrrrl K n p k (vs.take j) σ) : rTglllrrrl K n p k (vs.take j) σ' := by
  unfold rTglllrrrl at hb ⊢
  cases c : Nat.beq k 35 with
  | true =>
    rw [c] at hb
    obtain rfl := Nat.eq_of_beq_eq_true c
    exact rs_35 (p := p) h hb
  | false =>
    rw [c] at hb
    exact hb.elim
theorem rTglllrrrr_st {K : Nat → Nat} {n : Nat} {p : rP} {k : Nat} {vs : List jv} {j : Nat} {σ σ' : Nat → jcell} (h : ∀ a, a < n → ∀ q ∈ ra_dep.getD k [], q.1 = K a → aSm vs q (σ a) (σ' a)) (hb : rTglllrrrr K n p k (vs.take j) σ) : rTglllrrrr K n p k (vs.take j) σ' := by
  unfold rTglllrrrr at hb ⊢
  cases c : Nat.beq k 36 with
  | true =>
    rw [c] at hb
    obtain rfl := Nat.eq_of_beq_eq_true c
    exact rs_36 (p := p) h hb
  | false =>
    rw [c] at hb
    exact hb.elim
theorem rTglllrrr_st {K : Nat → Nat} {n : Nat} {p : rP} {k : Nat} {vs : List jv} {j : Nat} {σ σ' : Nat → jcell} (h : ∀ a, a < n → ∀ q ∈ ra_dep.getD k [], q.1 = K a → aSm vs q (σ a) (σ' a)) (hb : rTglllrrr K n p k (vs.take j) σ) : rTglllrrr K n p k (vs.take j) σ' := by
  unfold rTglllrrr at hb ⊢
  cases c : Nat.ble k 35 with
  | true =>
    rw [c] at hb
    exact rTglllrrrl_st h hb
  | false =>
    rw [c] at hb
    exact rTglllrrrr_st h hb
theorem rTglllrr_st {K : Nat → Nat} {n : Nat} {p : rP} {k : Nat} {vs : List jv} {j : Nat} {σ σ' : Nat → jcell} (h : ∀ a, a < n → ∀ q ∈ ra_dep.getD k [], q.1 = K a → aSm vs q (σ a) (σ' a)) (hb : rTglllrr K n p k (vs.take j) σ) : rTglllrr K n p k (vs.take j) σ' := by
  unfold rTglllrr at hb ⊢
  cases c : Nat.ble k 34 with
  | true =>
    rw [c] at hb
    exact rTglllrrl_st h hb
  | false =>
    rw [c] at hb
    exact rTglllrrr_st h hb
theorem rTglllr_st {K : Nat → Nat} {n : Nat} {p : rP} {k : Nat} {vs : List jv} {j : Nat} {σ σ' : Nat → jcell} (h : ∀ a, a < n → ∀ q ∈ ra_dep.getD k [], q.1 = K a → aSm vs q (σ a) (σ' a)) (hb : rTglllr K n p k (vs.take j) σ) : rTglllr K n p k (vs.take j) σ' := by
  unfold rTglllr at hb ⊢
  cases c : Nat.ble k 32 with
  | true =>
    rw [c] at hb
    exact rTglllrl_st h hb
  | false =>
    rw [c] at hb
    exact rTglllrr_st h hb
theorem rTglll_st {K : Nat → Nat} {n : Nat} {p : rP} {k : Nat} {vs : List jv} {j : Nat} {σ σ' : Nat → jcell} (h : ∀ a, a < n → ∀ q ∈ ra_dep.getD k [], q.1 = K a → aSm vs q (σ a) (σ' a)) (hb : rTglll K n p k (vs.take j) σ) : rTglll K n p k (vs.take j) σ' := by
  unfold rTglll at hb ⊢
  cases c : Nat.ble k 28 with
  | true =>
    rw [c] at hb
    exact rTgllll_st h hb
  | false =>
    rw [c] at hb
    exact rTglllr_st h hb
theorem rTgllrllll_st {K : Nat → Nat} {n : Nat} {p : rP} {k : Nat} {vs : List jv} {j : Nat} {σ σ' : Nat → jcell} (h : ∀ a, a < n → ∀ q ∈ ra_dep.getD k [], q.1 = K a → aSm vs q (σ a) (σ' a)) (hb : rTgllrllll K n p k (vs.take j) σ) : rTgllrllll K n p k (vs.take j) σ' := by
  unfold rTgllrllll at hb ⊢
  cases c : Nat.beq k 37 with
  | true =>
    rw [c] at hb
    obtain rfl := Nat.eq_of_beq_eq_true c
    exact rs_37 (p := p) h hb
  | false =>
    rw [c] at hb
    exact hb.elim
theorem rTgllrlllr_st {K : Nat → Nat} {n : Nat} {p : rP} {k : Nat} {vs : List jv} {j : Nat} {σ σ' : Nat → jcell} (h : ∀ a, a < n → ∀ q ∈ ra_dep.getD k [], q.1 = K a → aSm vs q (σ a) (σ' a)) (hb : rTgllrlllr K n p k (vs.take j) σ) : rTgllrlllr K n p k (vs.take j) σ' := by
  unfold rTgllrlllr at hb ⊢
  cases c : Nat.beq k 38 with
  | true =>
    rw [c] at hb
    obtain rfl := Nat.eq_of_beq_eq_true c
    exact rs_38 (p := p) h hb
  | false =>
    rw [c] at hb
    exact hb.elim
theorem rTgllrlll_st {K : Nat → Nat} {n : Nat} {p : rP} {k : Nat} {vs : List jv} {j : Nat} {σ σ' : Nat → jcell} (h : ∀ a, a < n → ∀ q ∈ ra_dep.getD k [], q.1 = K a → aSm vs q (σ a) (σ' a)) (hb : rTgllrlll K n p k (vs.take j) σ) : rTgllrlll K n p k (vs.take j) σ' := by
  unfold rTgllrlll at hb ⊢
  cases c : Nat.ble k 37 with
  | true =>
    rw [c] at hb
    exact rTgllrllll_st h hb
  | false =>
    rw [c] at hb
    exact rTgllrlllr_st h hb
theorem rTgllrllrl_st {K : Nat → Nat} {n : Nat} {p : rP} {k : Nat} {vs : List jv} {j : Nat} {σ σ' : Nat → jcell} (h : ∀ a, a < n → ∀ q ∈ ra_dep.getD k [], q.1 = K a → aSm vs q (σ a) (σ' a)) (hb : rTgllrllrl K n p k (vs.take j) σ) : rTgllrllrl K n p k (vs.take j) σ' := by
  unfold rTgllrllrl at hb ⊢
  cases c : Nat.beq k 39 with
  | true =>
    rw [c] at hb
    obtain rfl := Nat.eq_of_beq_eq_true c
    exact rs_39 (p := p) h hb
  | false =>
    rw [c] at hb
    exact hb.elim
theorem rTgllrllrr_st {K : Nat → Nat} {n : Nat} {p : rP} {k : Nat} {vs : List jv} {j : Nat} {σ σ' : Nat → jcell} (h : ∀ a, a < n → ∀ q ∈ ra_dep.getD k [], q.1 = K a → aSm vs q (σ a) (σ' a)) (hb : rTgllrllrr K n p k (vs.take j) σ) : rTgllrllrr K n p k (vs.take j) σ' := by
  unfold rTgllrllrr at hb ⊢
  cases c : Nat.beq k 40 with
  | true =>
    rw [c] at hb
    obtain rfl := Nat.eq_of_beq_eq_true c
    exact rs_40 (p := p) h hb
  | false =>
    rw [c] at hb
    exact hb.elim
theorem rTgllrllr_st {K : Nat → Nat} {n : Nat} {p : rP} {k : Nat} {vs : List jv} {j : Nat} {σ σ' : Nat → jcell} (h : ∀ a, a < n → ∀ q ∈ ra_dep.getD k [], q.1 = K a → aSm vs q (σ a) (σ' a)) (hb : rTgllrllr K n p k (vs.take j) σ) : rTgllrllr K n p k (vs.take j) σ' := by
  unfold rTgllrllr at hb ⊢
  cases c : Nat.ble k 39 with
  | true =>
    rw [c] at hb
    exact rTgllrllrl_st h hb
  | false =>
    rw [c] at hb
    exact rTgllrllrr_st h hb
theorem rTgllrll_st {K : Nat → Nat} {n : Nat} {p : rP} {k : Nat} {vs : List jv} {j : Nat} {σ σ' : Nat → jcell} (h : ∀ a, a < n → ∀ q ∈ ra_dep.getD k [], q.1 = K a → aSm vs q (σ a) (σ' a)) (hb : rTgllrll K n p k (vs.take j) σ) : rTgllrll K n p k (vs.take j) σ' := by
  unfold rTgllrll at hb ⊢
  cases c : Nat.ble k 38 with
  | true =>
    rw [c] at hb
    exact rTgllrlll_st h hb
  | false =>
    rw [c] at hb
    exact rTgllrllr_st h hb
theorem rTgllrlrll_st {K : Nat → Nat} {n : Nat} {p : rP} {k : Nat} {vs : List jv} {j : Nat} {σ σ' : Nat → jcell} (h : ∀ a, a < n → ∀ q ∈ ra_dep.getD k [], q.1 = K a → aSm vs q (σ a) (σ' a)) (hb : rTgllrlrll K n p k (vs.take j) σ) : rTgllrlrll K n p k (vs.take j) σ' := by
  unfold rTgllrlrll at hb ⊢
  cases c : Nat.beq k 41 with
  | true =>
    rw [c] at hb
    obtain rfl := Nat.eq_of_beq_eq_true c
    exact rs_41 (p := p) h hb
  | false =>
    rw [c] at hb
    exact hb.elim
theorem rTgllrlrlr_st {K : Nat → Nat} {n : Nat} {p : rP} {k : Nat} {vs : List jv} {j : Nat} {σ σ' : Nat → jcell} (h : ∀ a, a < n → ∀ q ∈ ra_dep.getD k [], q.1 = K a → aSm vs q (σ a) (σ' a)) (hb : rTgllrlrlr K n p k (vs.take j) σ) : rTgllrlrlr K n p k (vs.take j) σ' := by
  unfold rTgllrlrlr at hb ⊢
  cases c : Nat.beq k 42 with
  | true =>
    rw [c] at hb
    obtain rfl := Nat.eq_of_beq_eq_true c
    exact rs_42 (p := p) h hb
  | false =>
    rw [c] at hb
    exact hb.elim
theorem rTgllrlrl_st {K : Nat → Nat} {n : Nat} {p : rP} {k : Nat} {vs : List jv} {j : Nat} {σ σ' : Nat → jcell} (h : ∀ a, a < n → ∀ q ∈ ra_dep.getD k [], q.1 = K a → aSm vs q (σ a) (σ' a)) (hb : rTgllrlrl K n p k (vs.take j) σ) : rTgllrlrl K n p k (vs.take j) σ' := by
  unfold rTgllrlrl at hb ⊢
  cases c : Nat.ble k 41 with
  | true =>
    rw [c] at hb
    exact rTgllrlrll_st h hb
  | false =>
    rw [c] at hb
    exact rTgllrlrlr_st h hb
theorem rTgllrlrrl_st {K : Nat → Nat} {n : Nat} {p : rP} {k : Nat} {vs : List jv} {j : Nat} {σ σ' : Nat → jcell} (h : ∀ a, a < n → ∀ q ∈ ra_dep.getD k [], q.1 = K a → aSm vs q (σ a) (σ' a)) (hb : rTgllrlrrl K n p k (vs.take j) σ) : rTgllrlrrl K n p k (vs.take j) σ' := by
  unfold rTgllrlrrl at hb ⊢
  cases c : Nat.beq k 43 with
  | true =>
    rw [c] at hb
    obtain rfl := Nat.eq_of_beq_eq_true c
    exact rs_43 (p := p) h hb
  | false =>
    rw [c] at hb
    exact hb.elim
theorem rTgllrlrrr_st {K : Nat → Nat} {n : Nat} {p : rP} {k : Nat} {vs : List jv} {j : Nat} {σ σ' : Nat → jcell} (h : ∀ a, a < n → ∀ q ∈ ra_dep.getD k [], q.1 = K a → aSm vs q (σ a) (σ' a)) (hb : rTgllrlrrr K n p k (vs.take j) σ) : rTgllrlrrr K n p k (vs.take j) σ' := by
  unfold rTgllrlrrr at hb ⊢
  cases c : Nat.beq k 45 with
  | true =>
    rw [c] at hb
    obtain rfl := Nat.eq_of_beq_eq_true c
    exact rs_45 (p := p) h hb
  | false =>
    rw [c] at hb
    exact hb.elim
theorem rTgllrlrr_st {K : Nat → Nat} {n : Nat} {p : rP} {k : Nat} {vs : List jv} {j : Nat} {σ σ' : Nat → jcell} (h : ∀ a, a < n → ∀ q ∈ ra_dep.getD k [], q.1 = K a → aSm vs q (σ a) (σ' a)) (hb : rTgllrlrr K n p k (vs.take j) σ) : rTgllrlrr K n p k (vs.take j) σ' := by
  unfold rTgllrlrr at hb ⊢
  cases c : Nat.ble k 43 with
  | true =>
    rw [c] at hb
    exact rTgllrlrrl_st h hb
  | false =>
    rw [c] at hb
    exact rTgllrlrrr_st h hb
theorem rTgllrlr_st {K : Nat → Nat} {n : Nat} {p : rP} {k : Nat} {vs : List jv} {j : Nat} {σ σ' : Nat → jcell} (h : ∀ a, a < n → ∀ q ∈ ra_dep.getD k [], q.1 = K a → aSm vs q (σ a) (σ' a)) (hb : rTgllrlr K n p k (vs.take j) σ) : rTgllrlr K n p k (vs.take j) σ' := by
  unfold rTgllrlr at hb ⊢
  cases c : Nat.ble k 42 with
  | true =>
    rw [c] at hb
    exact rTgllrlrl_st h hb
  | false =>
    rw [c] at hb
    exact rTgllrlrr_st h hb
theorem rTgllrl_st {K : Nat → Nat} {n : Nat} {p : rP} {k : Nat} {vs : List jv} {j : Nat} {σ σ' : Nat → jcell} (h : ∀ a, a < n → ∀ q ∈ ra_dep.getD k [], q.1 = K a → aSm vs q (σ a) (σ' a)) (hb : rTgllrl K n p k (vs.take j) σ) : rTgllrl K n p k (vs.take j) σ' := by
  unfold rTgllrl at hb ⊢
  cases c : Nat.ble k 40 with
  | true =>
    rw [c] at hb
    exact rTgllrll_st h hb
  | false =>
    rw [c] at hb
    exact rTgllrlr_st h hb
theorem rTgllrrlll_st {K : Nat → Nat} {n : Nat} {p : rP} {k : Nat} {vs : List jv} {j : Nat} {σ σ' : Nat → jcell} (h : ∀ a, a < n → ∀ q ∈ ra_dep.getD k [], q.1 = K a → aSm vs q (σ a) (σ' a)) (hb : rTgllrrlll K n p k (vs.take j) σ) : rTgllrrlll K n p k (vs.take j) σ' := by
  unfold rTgllrrlll at hb ⊢
  cases c : Nat.beq k 46 with
  | true =>
    rw [c] at hb
    obtain rfl := Nat.eq_of_beq_eq_true c
    exact rs_46 (p := p) h hb
  | false =>
    rw [c] at hb
    exact hb.elim
theorem rTgllrrllr_st {K : Nat → Nat} {n : Nat} {p : rP} {k : Nat} {vs : List jv} {j : Nat} {σ σ' : Nat → jcell} (h : ∀ a, a < n → ∀ q ∈ ra_dep.getD k [], q.1 = K a → aSm vs q (σ a) (σ' a)) (hb : rTgllrrllr K n p k (vs.take j) σ) : rTgllrrllr K n p k (vs.take j) σ' := by
  unfold rTgllrrllr at hb ⊢
  cases c : Nat.beq k 47 with
  | true =>
    rw [c] at hb
    obtain rfl := Nat.eq_of_beq_eq_true c
    exact rs_47 (p := p) h hb
  | false =>
    rw [c] at hb
    exact hb.elim
theorem rTgllrrll_st {K : Nat → Nat} {n : Nat} {p : rP} {k : Nat} {vs : List jv} {j : Nat} {σ σ' : Nat → jcell} (h : ∀ a, a < n → ∀ q ∈ ra_dep.getD k [], q.1 = K a → aSm vs q (σ a) (σ' a)) (hb : rTgllrrll K n p k (vs.take j) σ) : rTgllrrll K n p k (vs.take j) σ' := by
  unfold rTgllrrll at hb ⊢
  cases c : Nat.ble k 46 with
  | true =>
    rw [c] at hb
    exact rTgllrrlll_st h hb
  | false =>
    rw [c] at hb
    exact rTgllrrllr_st h hb
theorem rTgllrrlrl_st {K : Nat → Nat} {n : Nat} {p : rP} {k : Nat} {vs : List jv} {j : Nat} {σ σ' : Nat → jcell} (h : ∀ a, a < n → ∀ q ∈ ra_dep.getD k [], q.1 = K a → aSm vs q (σ a) (σ' a)) (hb : rTgllrrlrl K n p k (vs.take j) σ) : rTgllrrlrl K n p k (vs.take j) σ' := by
  unfold rTgllrrlrl at hb ⊢
  cases c : Nat.beq k 48 with
  | true =>
    rw [c] at hb
    obtain rfl := Nat.eq_of_beq_eq_true c
    exact rs_48 (p := p) h hb
  | false =>
    rw [c] at hb
    exact hb.elim
theorem rTgllrrlrr_st {K : Nat → Nat} {n : Nat} {p : rP} {k : Nat} {vs : List jv} {j : Nat} {σ σ' : Nat → jcell} (h : ∀ a, a < n → ∀ q ∈ ra_dep.getD k [], q.1 = K a → aSm vs q (σ a) (σ' a)) (hb : rTgllrrlrr K n p k (vs.take j) σ) : rTgllrrlrr K n p k (vs.take j) σ' := by
  unfold rTgllrrlrr at hb ⊢
  cases c : Nat.beq k 49 with
  | true =>
    rw [c] at hb
    obtain rfl := Nat.eq_of_beq_eq_true c
    exact rs_49 (p := p) h hb
  | false =>
    rw [c] at hb
    exact hb.elim
theorem rTgllrrlr_st {K : Nat → Nat} {n : Nat} {p : rP} {k : Nat} {vs : List jv} {j : Nat} {σ σ' : Nat → jcell} (h : ∀ a, a < n → ∀ q ∈ ra_dep.getD k [], q.1 = K a → aSm vs q (σ a) (σ' a)) (hb : rTgllrrlr K n p k (vs.take j) σ) : rTgllrrlr K n p k (vs.take j) σ' := by
  unfold rTgllrrlr at hb ⊢
  cases c : Nat.ble k 48 with
  | true =>
    rw [c] at hb
    exact rTgllrrlrl_st h hb
  | false =>
    rw [c] at hb
    exact rTgllrrlrr_st h hb
theorem rTgllrrl_st {K : Nat → Nat} {n : Nat} {p : rP} {k : Nat} {vs : List jv} {j : Nat} {σ σ' : Nat → jcell} (h : ∀ a, a < n → ∀ q ∈ ra_dep.getD k [], q.1 = K a → aSm vs q (σ a) (σ' a)) (hb : rTgllrrl K n p k (vs.take j) σ) : rTgllrrl K n p k (vs.take j) σ' := by
  unfold rTgllrrl at hb ⊢
  cases c : Nat.ble k 47 with
  | true =>
    rw [c] at hb
    exact rTgllrrll_st h hb
  | false =>
    rw [c] at hb
    exact rTgllrrlr_st h hb
theorem rTgllrrrll_st {K : Nat → Nat} {n : Nat} {p : rP} {k : Nat} {vs : List jv} {j : Nat} {σ σ' : Nat → jcell} (h : ∀ a, a < n → ∀ q ∈ ra_dep.getD k [], q.1 = K a → aSm vs q (σ a) (σ' a)) (hb : rTgllrrrll K n p k (vs.take j) σ) : rTgllrrrll K n p k (vs.take j) σ' := by
  unfold rTgllrrrll at hb ⊢
  cases c : Nat.beq k 50 with
  | true =>
    rw [c] at hb
    obtain rfl := Nat.eq_of_beq_eq_true c
    exact rs_50 (p := p) h hb
  | false =>
    rw [c] at hb
    exact hb.elim
theorem rTgllrrrlr_st {K : Nat → Nat} {n : Nat} {p : rP} {k : Nat} {vs : List jv} {j : Nat} {σ σ' : Nat → jcell} (h : ∀ a, a < n → ∀ q ∈ ra_dep.getD k [], q.1 = K a → aSm vs q (σ a) (σ' a)) (hb : rTgllrrrlr K n p k (vs.take j) σ) : rTgllrrrlr K n p k (vs.take j) σ' := by
  unfold rTgllrrrlr at hb ⊢
  cases c : Nat.beq k 51 with
  | true =>
    rw [c] at hb
    obtain rfl := Nat.eq_of_beq_eq_true c
    exact rs_51 (p := p) h hb
  | false =>
    rw [c] at hb
    exact hb.elim
theorem rTgllrrrl_st {K : Nat → Nat} {n : Nat} {p : rP} {k : Nat} {vs : List jv} {j : Nat} {σ σ' : Nat → jcell} (h : ∀ a, a < n → ∀ q ∈ ra_dep.getD k [], q.1 = K a → aSm vs q (σ a) (σ' a)) (hb : rTgllrrrl K n p k (vs.take j) σ) : rTgllrrrl K n p k (vs.take j) σ' := by
  unfold rTgllrrrl at hb ⊢
  cases c : Nat.ble k 50 with
  | true =>
    rw [c] at hb
    exact rTgllrrrll_st h hb
  | false =>
    rw [c] at hb
    exact rTgllrrrlr_st h hb
theorem rTgllrrrrl_st {K : Nat → Nat} {n : Nat} {p : rP} {k : Nat} {vs : List jv} {j : Nat} {σ σ' : Nat → jcell} (h : ∀ a, a < n → ∀ q ∈ ra_dep.getD k [], q.1 = K a → aSm vs q (σ a) (σ' a)) (hb : rTgllrrrrl K n p k (vs.take j) σ) : rTgllrrrrl K n p k (vs.take j) σ' := by
  unfold rTgllrrrrl at hb ⊢
  cases c : Nat.beq k 52 with
  | true =>
    rw [c] at hb
    obtain rfl := Nat.eq_of_beq_eq_true c
    exact rs_52 (p := p) h hb
  | false =>
    rw [c] at hb
    exact hb.elim
theorem rTgllrrrrr_st {K : Nat → Nat} {n : Nat} {p : rP} {k : Nat} {vs : List jv} {j : Nat} {σ σ' : Nat → jcell} (h : ∀ a, a < n → ∀ q ∈ ra_dep.getD k [], q.1 = K a → aSm vs q (σ a) (σ' a)) (hb : rTgllrrrrr K n p k (vs.take j) σ) : rTgllrrrrr K n p k (vs.take j) σ' := by
  unfold rTgllrrrrr at hb ⊢
  cases c : Nat.beq k 53 with
  | true =>
    rw [c] at hb
    obtain rfl := Nat.eq_of_beq_eq_true c
    exact rs_53 (p := p) h hb
  | false =>
    rw [c] at hb
    exact hb.elim
theorem rTgllrrrr_st {K : Nat → Nat} {n : Nat} {p : rP} {k : Nat} {vs : List jv} {j : Nat} {σ σ' : Nat → jcell} (h : ∀ a, a < n → ∀ q ∈ ra_dep.getD k [], q.1 = K a → aSm vs q (σ a) (σ' a)) (hb : rTgllrrrr K n p k (vs.take j) σ) : rTgllrrrr K n p k (vs.take j) σ' := by
  unfold rTgllrrrr at hb ⊢
  cases c : Nat.ble k 52 with
  | true =>
    rw [c] at hb
    exact rTgllrrrrl_st h hb
  | false =>
    rw [c] at hb
    exact rTgllrrrrr_st h hb
theorem rTgllrrr_st {K : Nat → Nat} {n : Nat} {p : rP} {k : Nat} {vs : List jv} {j : Nat} {σ σ' : Nat → jcell} (h : ∀ a, a < n → ∀ q ∈ ra_dep.getD k [], q.1 = K a → aSm vs q (σ a) (σ' a)) (hb : rTgllrrr K n p k (vs.take j) σ) : rTgllrrr K n p k (vs.take j) σ' := by
  unfold rTgllrrr at hb ⊢
  cases c : Nat.ble k 51 with
  | true =>
    rw [c] at hb
    exact rTgllrrrl_st h hb
  | false =>
    rw [c] at hb
    exact rTgllrrrr_st h hb
theorem rTgllrr_st {K : Nat → Nat} {n : Nat} {p : rP} {k : Nat} {vs : List jv} {j : Nat} {σ σ' : Nat → jcell} (h : ∀ a, a < n → ∀ q ∈ ra_dep.getD k [], q.1 = K a → aSm vs q (σ a) (σ' a)) (hb : rTgllrr K n p k (vs.take j) σ) : rTgllrr K n p k (vs.take j) σ' := by
  unfold rTgllrr at hb ⊢
  cases c : Nat.ble k 49 with
  | true =>
    rw [c] at hb
    exact rTgllrrl_st h hb
  | false =>
    rw [c] at hb
    exact rTgllrrr_st h hb
theorem rTgllr_st {K : Nat → Nat} {n : Nat} {p : rP} {k : Nat} {vs : List jv} {j : Nat} {σ σ' : Nat → jcell} (h : ∀ a, a < n → ∀ q ∈ ra_dep.getD k [], q.1 = K a → aSm vs q (σ a) (σ' a)) (hb : rTgllr K n p k (vs.take j) σ) : rTgllr K n p k (vs.take j) σ' := by
  unfold rTgllr at hb ⊢
  cases c : Nat.ble k 45 with
  | true =>
    rw [c] at hb
    exact rTgllrl_st h hb
  | false =>
    rw [c] at hb
    exact rTgllrr_st h hb
theorem rTgll_st {K : Nat → Nat} {n : Nat} {p : rP} {k : Nat} {vs : List jv} {j : Nat} {σ σ' : Nat → jcell} (h : ∀ a, a < n → ∀ q ∈ ra_dep.getD k [], q.1 = K a → aSm vs q (σ a) (σ' a)) (hb : rTgll K n p k (vs.take j) σ) : rTgll K n p k (vs.take j) σ' := by
  unfold rTgll at hb ⊢
  cases c : Nat.ble k 36 with
  | true =>
    rw [c] at hb
    exact rTglll_st h hb
  | false =>
    rw [c] at hb
    exact rTgllr_st h hb
theorem rTglrllll_st {K : Nat → Nat} {n : Nat} {p : rP} {k : Nat} {vs : List jv} {j : Nat} {σ σ' : Nat → jcell} (h : ∀ a, a < n → ∀ q ∈ ra_dep.getD k [], q.1 = K a → aSm vs q (σ a) (σ' a)) (hb : rTglrllll K n p k (vs.take j) σ) : rTglrllll K n p k (vs.take j) σ' := by
  unfold rTglrllll at hb ⊢
  cases c : Nat.beq k 54 with
  | true =>
    rw [c] at hb
    obtain rfl := Nat.eq_of_beq_eq_true c
    exact rs_54 (p := p) h hb
  | false =>
    rw [c] at hb
    exact hb.elim
theorem rTglrlllrl_st {K : Nat → Nat} {n : Nat} {p : rP} {k : Nat} {vs : List jv} {j : Nat} {σ σ' : Nat → jcell} (h : ∀ a, a < n → ∀ q ∈ ra_dep.getD k [], q.1 = K a → aSm vs q (σ a) (σ' a)) (hb : rTglrlllrl K n p k (vs.take j) σ) : rTglrlllrl K n p k (vs.take j) σ' := by
  unfold rTglrlllrl at hb ⊢
  cases c : Nat.beq k 55 with
  | true =>
    rw [c] at hb
    obtain rfl := Nat.eq_of_beq_eq_true c
    exact rs_55 (p := p) h hb
  | false =>
    rw [c] at hb
    exact hb.elim
theorem rTglrlllrr_st {K : Nat → Nat} {n : Nat} {p : rP} {k : Nat} {vs : List jv} {j : Nat} {σ σ' : Nat → jcell} (h : ∀ a, a < n → ∀ q ∈ ra_dep.getD k [], q.1 = K a → aSm vs q (σ a) (σ' a)) (hb : rTglrlllrr K n p k (vs.take j) σ) : rTglrlllrr K n p k (vs.take j) σ' := by
  unfold rTglrlllrr at hb ⊢
  cases c : Nat.beq k 56 with
  | true =>
    rw [c] at hb
    obtain rfl := Nat.eq_of_beq_eq_true c
    exact rs_56 (p := p) h hb
  | false =>
    rw [c] at hb
    exact hb.elim
theorem rTglrlllr_st {K : Nat → Nat} {n : Nat} {p : rP} {k : Nat} {vs : List jv} {j : Nat} {σ σ' : Nat → jcell} (h : ∀ a, a < n → ∀ q ∈ ra_dep.getD k [], q.1 = K a → aSm vs q (σ a) (σ' a)) (hb : rTglrlllr K n p k (vs.take j) σ) : rTglrlllr K n p k (vs.take j) σ' := by
  unfold rTglrlllr at hb ⊢
  cases c : Nat.ble k 55 with
  | true =>
    rw [c] at hb
    exact rTglrlllrl_st h hb
  | false =>
    rw [c] at hb
    exact rTglrlllrr_st h hb
theorem rTglrlll_st {K : Nat → Nat} {n : Nat} {p : rP} {k : Nat} {vs : List jv} {j : Nat} {σ σ' : Nat → jcell} (h : ∀ a, a < n → ∀ q ∈ ra_dep.getD k [], q.1 = K a → aSm vs q (σ a) (σ' a)) (hb : rTglrlll K n p k (vs.take j) σ) : rTglrlll K n p k (vs.take j) σ' := by
  unfold rTglrlll at hb ⊢
  cases c : Nat.ble k 54 with
  | true =>
    rw [c] at hb
    exact rTglrllll_st h hb
  | false =>
    rw [c] at hb
    exact rTglrlllr_st h hb
theorem rTglrllrll_st {K : Nat → Nat} {n : Nat} {p : rP} {k : Nat} {vs : List jv} {j : Nat} {σ σ' : Nat → jcell} (h : ∀ a, a < n → ∀ q ∈ ra_dep.getD k [], q.1 = K a → aSm vs q (σ a) (σ' a)) (hb : rTglrllrll K n p k (vs.take j) σ) : rTglrllrll K n p k (vs.take j) σ' := by
  unfold rTglrllrll at hb ⊢
  cases c : Nat.beq k 57 with
  | true =>
    rw [c] at hb
    obtain rfl := Nat.eq_of_beq_eq_true c
    exact rs_57 (p := p) h hb
  | false =>
    rw [c] at hb
    exact hb.elim
theorem rTglrllrlr_st {K : Nat → Nat} {n : Nat} {p : rP} {k : Nat} {vs : List jv} {j : Nat} {σ σ' : Nat → jcell} (h : ∀ a, a < n → ∀ q ∈ ra_dep.getD k [], q.1 = K a → aSm vs q (σ a) (σ' a)) (hb : rTglrllrlr K n p k (vs.take j) σ) : rTglrllrlr K n p k (vs.take j) σ' := by
  unfold rTglrllrlr at hb ⊢
  cases c : Nat.beq k 58 with
  | true =>
    rw [c] at hb
    obtain rfl := Nat.eq_of_beq_eq_true c
    exact rs_58 (p := p) h hb
  | false =>
    rw [c] at hb
    exact hb.elim
theorem rTglrllrl_st {K : Nat → Nat} {n : Nat} {p : rP} {k : Nat} {vs : List jv} {j : Nat} {σ σ' : Nat → jcell} (h : ∀ a, a < n → ∀ q ∈ ra_dep.getD k [], q.1 = K a → aSm vs q (σ a) (σ' a)) (hb : rTglrllrl K n p k (vs.take j) σ) : rTglrllrl K n p k (vs.take j) σ' := by
  unfold rTglrllrl at hb ⊢
  cases c : Nat.ble k 57 with
  | true =>
    rw [c] at hb
    exact rTglrllrll_st h hb
  | false =>
    rw [c] at hb
    exact rTglrllrlr_st h hb
theorem rTglrllrrl_st {K : Nat → Nat} {n : Nat} {p : rP} {k : Nat} {vs : List jv} {j : Nat} {σ σ' : Nat → jcell} (h : ∀ a, a < n → ∀ q ∈ ra_dep.getD k [], q.1 = K a → aSm vs q (σ a) (σ' a)) (hb : rTglrllrrl K n p k (vs.take j) σ) : rTglrllrrl K n p k (vs.take j) σ' := by
  unfold rTglrllrrl at hb ⊢
  cases c : Nat.beq k 59 with
  | true =>
    rw [c] at hb
    obtain rfl := Nat.eq_of_beq_eq_true c
    exact rs_59 (p := p) h hb
  | false =>
    rw [c] at hb
    exact hb.elim
theorem rTglrllrrr_st {K : Nat → Nat} {n : Nat} {p : rP} {k : Nat} {vs : List jv} {j : Nat} {σ σ' : Nat → jcell} (h : ∀ a, a < n → ∀ q ∈ ra_dep.getD k [], q.1 = K a → aSm vs q (σ a) (σ' a)) (hb : rTglrllrrr K n p k (vs.take j) σ) : rTglrllrrr K n p k (vs.take j) σ' := by
  unfold rTglrllrrr at hb ⊢
  cases c : Nat.beq k 60 with
  | true =>
    rw [c] at hb
    obtain rfl := Nat.eq_of_beq_eq_true c
    exact rs_60 (p := p) h hb
  | false =>
    rw [c] at hb
    exact hb.elim
theorem rTglrllrr_st {K : Nat → Nat} {n : Nat} {p : rP} {k : Nat} {vs : List jv} {j : Nat} {σ σ' : Nat → jcell} (h : ∀ a, a < n → ∀ q ∈ ra_dep.getD k [], q.1 = K a → aSm vs q (σ a) (σ' a)) (hb : rTglrllrr K n p k (vs.take j) σ) : rTglrllrr K n p k (vs.take j) σ' := by
  unfold rTglrllrr at hb ⊢
  cases c : Nat.ble k 59 with
  | true =>
    rw [c] at hb
    exact rTglrllrrl_st h hb
  | false =>
    rw [c] at hb
    exact rTglrllrrr_st h hb
theorem rTglrllr_st {K : Nat → Nat} {n : Nat} {p : rP} {k : Nat} {vs : List jv} {j : Nat} {σ σ' : Nat → jcell} (h : ∀ a, a < n → ∀ q ∈ ra_dep.getD k [], q.1 = K a → aSm vs q (σ a) (σ' a)) (hb : rTglrllr K n p k (vs.take j) σ) : rTglrllr K n p k (vs.take j) σ' := by
  unfold rTglrllr at hb ⊢
  cases c : Nat.ble k 58 with
  | true =>
    rw [c] at hb
    exact rTglrllrl_st h hb
  | false =>
    rw [c] at hb
    exact rTglrllrr_st h hb
theorem rTglrll_st {K : Nat → Nat} {n : Nat} {p : rP} {k : Nat} {vs : List jv} {j : Nat} {σ σ' : Nat → jcell} (h : ∀ a, a < n → ∀ q ∈ ra_dep.getD k [], q.1 = K a → aSm vs q (σ a) (σ' a)) (hb : rTglrll K n p k (vs.take j) σ) : rTglrll K n p k (vs.take j) σ' := by
  unfold rTglrll at hb ⊢
  cases c : Nat.ble k 56 with
  | true =>
    rw [c] at hb
    exact rTglrlll_st h hb
  | false =>
    rw [c] at hb
    exact rTglrllr_st h hb
theorem rTglrlrlll_st {K : Nat → Nat} {n : Nat} {p : rP} {k : Nat} {vs : List jv} {j : Nat} {σ σ' : Nat → jcell} (h : ∀ a, a < n → ∀ q ∈ ra_dep.getD k [], q.1 = K a → aSm vs q (σ a) (σ' a)) (hb : rTglrlrlll K n p k (vs.take j) σ) : rTglrlrlll K n p k (vs.take j) σ' := by
  unfold rTglrlrlll at hb ⊢
  cases c : Nat.beq k 61 with
  | true =>
    rw [c] at hb
    obtain rfl := Nat.eq_of_beq_eq_true c
    exact rs_61 (p := p) h hb
  | false =>
    rw [c] at hb
    exact hb.elim
theorem rTglrlrllr_st {K : Nat → Nat} {n : Nat} {p : rP} {k : Nat} {vs : List jv} {j : Nat} {σ σ' : Nat → jcell} (h : ∀ a, a < n → ∀ q ∈ ra_dep.getD k [], q.1 = K a → aSm vs q (σ a) (σ' a)) (hb : rTglrlrllr K n p k (vs.take j) σ) : rTglrlrllr K n p k (vs.take j) σ' := by
  unfold rTglrlrllr at hb ⊢
  cases c : Nat.beq k 62 with
  | true =>
    rw [c] at hb
    obtain rfl := Nat.eq_of_beq_eq_true c
    exact rs_62 (p := p) h hb
  | false =>
    rw [c] at hb
    exact hb.elim
theorem rTglrlrll_st {K : Nat → Nat} {n : Nat} {p : rP} {k : Nat} {vs : List jv} {j : Nat} {σ σ' : Nat → jcell} (h : ∀ a, a < n → ∀ q ∈ ra_dep.getD k [], q.1 = K a → aSm vs q (σ a) (σ' a)) (hb : rTglrlrll K n p k (vs.take j) σ) : rTglrlrll K n p k (vs.take j) σ' := by
  unfold rTglrlrll at hb ⊢
  cases c : Nat.ble k 61 with
  | true =>
    rw [c] at hb
    exact rTglrlrlll_st h hb
  | false =>
    rw [c] at hb
    exact rTglrlrllr_st h hb
theorem rTglrlrlrl_st {K : Nat → Nat} {n : Nat} {p : rP} {k : Nat} {vs : List jv} {j : Nat} {σ σ' : Nat → jcell} (h : ∀ a, a < n → ∀ q ∈ ra_dep.getD k [], q.1 = K a → aSm vs q (σ a) (σ' a)) (hb : rTglrlrlrl K n p k (vs.take j) σ) : rTglrlrlrl K n p k (vs.take j) σ' := by
  unfold rTglrlrlrl at hb ⊢
  cases c : Nat.beq k 63 with
  | true =>
    rw [c] at hb
    obtain rfl := Nat.eq_of_beq_eq_true c
    exact rs_63 (p := p) h hb
  | false =>
    rw [c] at hb
    exact hb.elim
theorem rTglrlrlrr_st {K : Nat → Nat} {n : Nat} {p : rP} {k : Nat} {vs : List jv} {j : Nat} {σ σ' : Nat → jcell} (h : ∀ a, a < n → ∀ q ∈ ra_dep.getD k [], q.1 = K a → aSm vs q (σ a) (σ' a)) (hb : rTglrlrlrr K n p k (vs.take j) σ) : rTglrlrlrr K n p k (vs.take j) σ' := by
  unfold rTglrlrlrr at hb ⊢
  cases c : Nat.beq k 64 with
  | true =>
    rw [c] at hb
    obtain rfl := Nat.eq_of_beq_eq_true c
    exact rs_64 (p := p) h hb
  | false =>
    rw [c] at hb
    exact hb.elim
theorem rTglrlrlr_st {K : Nat → Nat} {n : Nat} {p : rP} {k : Nat} {vs : List jv} {j : Nat} {σ σ' : Nat → jcell} (h : ∀ a, a < n → ∀ q ∈ ra_dep.getD k [], q.1 = K a → aSm vs q (σ a) (σ' a)) (hb : rTglrlrlr K n p k (vs.take j) σ) : rTglrlrlr K n p k (vs.take j) σ' := by
  unfold rTglrlrlr at hb ⊢
  cases c : Nat.ble k 63 with
  | true =>
    rw [c] at hb
    exact rTglrlrlrl_st h hb
  | false =>
    rw [c] at hb
    exact rTglrlrlrr_st h hb
theorem rTglrlrl_st {K : Nat → Nat} {n : Nat} {p : rP} {k : Nat} {vs : List jv} {j : Nat} {σ σ' : Nat → jcell} (h : ∀ a, a < n → ∀ q ∈ ra_dep.getD k [], q.1 = K a → aSm vs q (σ a) (σ' a)) (hb : rTglrlrl K n p k (vs.take j) σ) : rTglrlrl K n p k (vs.take j) σ' := by
  unfold rTglrlrl at hb ⊢
  cases c : Nat.ble k 62 with
  | true =>
    rw [c] at hb
    exact rTglrlrll_st h hb
  | false =>
    rw [c] at hb
    exact rTglrlrlr_st h hb
theorem rTglrlrrll_st {K : Nat → Nat} {n : Nat} {p : rP} {k : Nat} {vs : List jv} {j : Nat} {σ σ' : Nat → jcell} (h : ∀ a, a < n → ∀ q ∈ ra_dep.getD k [], q.1 = K a → aSm vs q (σ a) (σ' a)) (hb : rTglrlrrll K n p k (vs.take j) σ) : rTglrlrrll K n p k (vs.take j) σ' := by
  unfold rTglrlrrll at hb ⊢
  cases c : Nat.beq k 65 with
  | true =>
    rw [c] at hb
    obtain rfl := Nat.eq_of_beq_eq_true c
    exact rs_65 (p := p) h hb
  | false =>
    rw [c] at hb
    exact hb.elim
theorem rTglrlrrlr_st {K : Nat → Nat} {n : Nat} {p : rP} {k : Nat} {vs : List jv} {j : Nat} {σ σ' : Nat → jcell} (h : ∀ a, a < n → ∀ q ∈ ra_dep.getD k [], q.1 = K a → aSm vs q (σ a) (σ' a)) (hb : rTglrlrrlr K n p k (vs.take j) σ) : rTglrlrrlr K n p k (vs.take j) σ' := by
  unfold rTglrlrrlr at hb ⊢
  cases c : Nat.beq k 66 with
  | true =>
    rw [c] at hb
    obtain rfl := Nat.eq_of_beq_eq_true c
    exact rs_66 (p := p) h hb
  | false =>
    rw [c] at hb
    exact hb.elim
theorem rTglrlrrl_st {K : Nat → Nat} {n : Nat} {p : rP} {k : Nat} {vs : List jv} {j : Nat} {σ σ' : Nat → jcell} (h : ∀ a, a < n → ∀ q ∈ ra_dep.getD k [], q.1 = K a → aSm vs q (σ a) (σ' a)) (hb : rTglrlrrl K n p k (vs.take j) σ) : rTglrlrrl K n p k (vs.take j) σ' := by
  unfold rTglrlrrl at hb ⊢
  cases c : Nat.ble k 65 with
  | true =>
    rw [c] at hb
    exact rTglrlrrll_st h hb
  | false =>
    rw [c] at hb
    exact rTglrlrrlr_st h hb
theorem rTglrlrrrl_st {K : Nat → Nat} {n : Nat} {p : rP} {k : Nat} {vs : List jv} {j : Nat} {σ σ' : Nat → jcell} (h : ∀ a, a < n → ∀ q ∈ ra_dep.getD k [], q.1 = K a → aSm vs q (σ a) (σ' a)) (hb : rTglrlrrrl K n p k (vs.take j) σ) : rTglrlrrrl K n p k (vs.take j) σ' := by
  unfold rTglrlrrrl at hb ⊢
  cases c : Nat.beq k 67 with
  | true =>
    rw [c] at hb
    obtain rfl := Nat.eq_of_beq_eq_true c
    exact rs_67 (p := p) h hb
  | false =>
    rw [c] at hb
    exact hb.elim
theorem rTglrlrrrr_st {K : Nat → Nat} {n : Nat} {p : rP} {k : Nat} {vs : List jv} {j : Nat} {σ σ' : Nat → jcell} (h : ∀ a, a < n → ∀ q ∈ ra_dep.getD k [], q.1 = K a → aSm vs q (σ a) (σ' a)) (hb : rTglrlrrrr K n p k (vs.take j) σ) : rTglrlrrrr K n p k (vs.take j) σ' := by
  unfold rTglrlrrrr at hb ⊢
  cases c : Nat.beq k 68 with
  | true =>
    rw [c] at hb
    obtain rfl := Nat.eq_of_beq_eq_true c
    exact rs_68 (p := p) h hb
  | false =>
    rw [c] at hb
    exact hb.elim
theorem rTglrlrrr_st {K : Nat → Nat} {n : Nat} {p : rP} {k : Nat} {vs : List jv} {j : Nat} {σ σ' : Nat → jcell} (h : ∀ a, a < n → ∀ q ∈ ra_dep.getD k [], q.1 = K a → aSm vs q (σ a) (σ' a)) (hb : rTglrlrrr K n p k (vs.take j) σ) : rTglrlrrr K n p k (vs.take j) σ' := by
  unfold rTglrlrrr at hb ⊢
  cases c : Nat.ble k 67 with
  | true =>
    rw [c] at hb
    exact rTglrlrrrl_st h hb
  | false =>
    rw [c] at hb
    exact rTglrlrrrr_st h hb
theorem rTglrlrr_st {K : Nat → Nat} {n : Nat} {p : rP} {k : Nat} {vs : List jv} {j : Nat} {σ σ' : Nat → jcell} (h : ∀ a, a < n → ∀ q ∈ ra_dep.getD k [], q.1 = K a → aSm vs q (σ a) (σ' a)) (hb : rTglrlrr K n p k (vs.take j) σ) : rTglrlrr K n p k (vs.take j) σ' := by
  unfold rTglrlrr at hb ⊢
  cases c : Nat.ble k 66 with
  | true =>
    rw [c] at hb
    exact rTglrlrrl_st h hb
  | false =>
    rw [c] at hb
    exact rTglrlrrr_st h hb
theorem rTglrlr_st {K : Nat → Nat} {n : Nat} {p : rP} {k : Nat} {vs : List jv} {j : Nat} {σ σ' : Nat → jcell} (h : ∀ a, a < n → ∀ q ∈ ra_dep.getD k [], q.1 = K a → aSm vs q (σ a) (σ' a)) (hb : rTglrlr K n p k (vs.take j) σ) : rTglrlr K n p k (vs.take j) σ' := by
  unfold rTglrlr at hb ⊢
  cases c : Nat.ble k 64 with
  | true =>
    rw [c] at hb
    exact rTglrlrl_st h hb
  | false =>
    rw [c] at hb
    exact rTglrlrr_st h hb
theorem rTglrl_st {K : Nat → Nat} {n : Nat} {p : rP} {k : Nat} {vs : List jv} {j : Nat} {σ σ' : Nat → jcell} (h : ∀ a, a < n → ∀ q ∈ ra_dep.getD k [], q.1 = K a → aSm vs q (σ a) (σ' a)) (hb : rTglrl K n p k (vs.take j) σ) : rTglrl K n p k (vs.take j) σ' := by
  unfold rTglrl at hb ⊢
  cases c : Nat.ble k 60 with
  | true =>
    rw [c] at hb
    exact rTglrll_st h hb
  | false =>
    rw [c] at hb
    exact rTglrlr_st h hb
theorem rTglrrllll_st {K : Nat → Nat} {n : Nat} {p : rP} {k : Nat} {vs : List jv} {j : Nat} {σ σ' : Nat → jcell} (h : ∀ a, a < n → ∀ q ∈ ra_dep.getD k [], q.1 = K a → aSm vs q (σ a) (σ' a)) (hb : rTglrrllll K n p k (vs.take j) σ) : rTglrrllll K n p k (vs.take j) σ' := by
  unfold rTglrrllll at hb ⊢
  cases c : Nat.beq k 69 with
  | true =>
    rw [c] at hb
    obtain rfl := Nat.eq_of_beq_eq_true c
    exact rs_69 (p := p) h hb
  | false =>
    rw [c] at hb
    exact hb.elim
theorem rTglrrlllr_st {K : Nat → Nat} {n : Nat} {p : rP} {k : Nat} {vs : List jv} {j : Nat} {σ σ' : Nat → jcell} (h : ∀ a, a < n → ∀ q ∈ ra_dep.getD k [], q.1 = K a → aSm vs q (σ a) (σ' a)) (hb : rTglrrlllr K n p k (vs.take j) σ) : rTglrrlllr K n p k (vs.take j) σ' := by
  unfold rTglrrlllr at hb ⊢
  cases c : Nat.beq k 70 with
  | true =>
    rw [c] at hb
    obtain rfl := Nat.eq_of_beq_eq_true c
    exact rs_70 (p := p) h hb
  | false =>
    rw [c] at hb
    exact hb.elim
theorem rTglrrlll_st {K : Nat → Nat} {n : Nat} {p : rP} {k : Nat} {vs : List jv} {j : Nat} {σ σ' : Nat → jcell} (h : ∀ a, a < n → ∀ q ∈ ra_dep.getD k [], q.1 = K a → aSm vs q (σ a) (σ' a)) (hb : rTglrrlll K n p k (vs.take j) σ) : rTglrrlll K n p k (vs.take j) σ' := by
  unfold rTglrrlll at hb ⊢
  cases c : Nat.ble k 69 with
  | true =>
    rw [c] at hb
    exact rTglrrllll_st h hb
  | false =>
    rw [c] at hb
    exact rTglrrlllr_st h hb
theorem rTglrrllrl_st {K : Nat → Nat} {n : Nat} {p : rP} {k : Nat} {vs : List jv} {j : Nat} {σ σ' : Nat → jcell} (h : ∀ a, a < n → ∀ q ∈ ra_dep.getD k [], q.1 = K a → aSm vs q (σ a) (σ' a)) (hb : rTglrrllrl K n p k (vs.take j) σ) : rTglrrllrl K n p k (vs.take j) σ' := by
  unfold rTglrrllrl at hb ⊢
  cases c : Nat.beq k 71 with
  | true =>
    rw [c] at hb
    obtain rfl := Nat.eq_of_beq_eq_true c
    exact rs_71 (p := p) h hb
  | false =>
    rw [c] at hb
    exact hb.elim
theorem rTglrrllrr_st {K : Nat → Nat} {n : Nat} {p : rP} {k : Nat} {vs : List jv} {j : Nat} {σ σ' : Nat → jcell} (h : ∀ a, a < n → ∀ q ∈ ra_dep.getD k [], q.1 = K a → aSm vs q (σ a) (σ' a)) (hb : rTglrrllrr K n p k (vs.take j) σ) : rTglrrllrr K n p k (vs.take j) σ' := by
  unfold rTglrrllrr at hb ⊢
  cases c : Nat.beq k 72 with
  | true =>
    rw [c] at hb
    obtain rfl := Nat.eq_of_beq_eq_true c
    exact rs_72 (p := p) h hb
  | false =>
    rw [c] at hb
    exact hb.elim
theorem rTglrrllr_st {K : Nat → Nat} {n : Nat} {p : rP} {k : Nat} {vs : List jv} {j : Nat} {σ σ' : Nat → jcell} (h : ∀ a, a < n → ∀ q ∈ ra_dep.getD k [], q.1 = K a → aSm vs q (σ a) (σ' a)) (hb : rTglrrllr K n p k (vs.take j) σ) : rTglrrllr K n p k (vs.take j) σ' := by
  unfold rTglrrllr at hb ⊢
  cases c : Nat.ble k 71 with
  | true =>
    rw [c] at hb
    exact rTglrrllrl_st h hb
  | false =>
    rw [c] at hb
    exact rTglrrllrr_st h hb
theorem rTglrrll_st {K : Nat → Nat} {n : Nat} {p : rP} {k : Nat} {vs : List jv} {j : Nat} {σ σ' : Nat → jcell} (h : ∀ a, a < n → ∀ q ∈ ra_dep.getD k [], q.1 = K a → aSm vs q (σ a) (σ' a)) (hb : rTglrrll K n p k (vs.take j) σ) : rTglrrll K n p k (vs.take j) σ' := by
  unfold rTglrrll at hb ⊢
  cases c : Nat.ble k 70 with
  | true =>
    rw [c] at hb
    exact rTglrrlll_st h hb
  | false =>
    rw [c] at hb
    exact rTglrrllr_st h hb
theorem rTglrrlrll_st {K : Nat → Nat} {n : Nat} {p : rP} {k : Nat} {vs : List jv} {j : Nat} {σ σ' : Nat → jcell} (h : ∀ a, a < n → ∀ q ∈ ra_dep.getD k [], q.1 = K a → aSm vs q (σ a) (σ' a)) (hb : rTglrrlrll K n p k (vs.take j) σ) : rTglrrlrll K n p k (vs.take j) σ' := by
  unfold rTglrrlrll at hb ⊢
  cases c : Nat.beq k 73 with
  | true =>
    rw [c] at hb
    obtain rfl := Nat.eq_of_beq_eq_true c
    exact rs_73 (p := p) h hb
  | false =>
    rw [c] at hb
    exact hb.elim
theorem rTglrrlrlr_st {K : Nat → Nat} {n : Nat} {p : rP} {k : Nat} {vs : List jv} {j : Nat} {σ σ' : Nat → jcell} (h : ∀ a, a < n → ∀ q ∈ ra_dep.getD k [], q.1 = K a → aSm vs q (σ a) (σ' a)) (hb : rTglrrlrlr K n p k (vs.take j) σ) : rTglrrlrlr K n p k (vs.take j) σ' := by
  unfold rTglrrlrlr at hb ⊢
  cases c : Nat.beq k 74 with
  | true =>
    rw [c] at hb
    obtain rfl := Nat.eq_of_beq_eq_true c
    exact rs_74 (p := p) h hb
  | false =>
    rw [c] at hb
    exact hb.elim
theorem rTglrrlrl_st {K : Nat → Nat} {n : Nat} {p : rP} {k : Nat} {vs : List jv} {j : Nat} {σ σ' : Nat → jcell} (h : ∀ a, a < n → ∀ q ∈ ra_dep.getD k [], q.1 = K a → aSm vs q (σ a) (σ' a)) (hb : rTglrrlrl K n p k (vs.take j) σ) : rTglrrlrl K n p k (vs.take j) σ' := by
  unfold rTglrrlrl at hb ⊢
  cases c : Nat.ble k 73 with
  | true =>
    rw [c] at hb
    exact rTglrrlrll_st h hb
  | false =>
    rw [c] at hb
    exact rTglrrlrlr_st h hb
theorem rTglrrlrrl_st {K : Nat → Nat} {n : Nat} {p : rP} {k : Nat} {vs : List jv} {j : Nat} {σ σ' : Nat → jcell} (h : ∀ a, a < n → ∀ q ∈ ra_dep.getD k [], q.1 = K a → aSm vs q (σ a) (σ' a)) (hb : rTglrrlrrl K n p k (vs.take j) σ) : rTglrrlrrl K n p k (vs.take j) σ' := by
  unfold rTglrrlrrl at hb ⊢
  cases c : Nat.beq k 75 with
  | true =>
    rw [c] at hb
    obtain rfl := Nat.eq_of_beq_eq_true c
    exact rs_75 (p := p) h hb
  | false =>
    rw [c] at hb
    exact hb.elim
theorem rTglrrlrrr_st {K : Nat → Nat} {n : Nat} {p : rP} {k : Nat} {vs : List jv} {j : Nat} {σ σ' : Nat → jcell} (h : ∀ a, a < n → ∀ q ∈ ra_dep.getD k [], q.1 = K a → aSm vs q (σ a) (σ' a)) (hb : rTglrrlrrr K n p k (vs.take j) σ) : rTglrrlrrr K n p k (vs.take j) σ' := by
  unfold rTglrrlrrr at hb ⊢
  cases c : Nat.beq k 76 with
  | true =>
    rw [c] at hb
    obtain rfl := Nat.eq_of_beq_eq_true c
    exact rs_76 (p := p) h hb
  | false =>
    rw [c] at hb
    exact hb.elim
theorem rTglrrlrr_st {K : Nat → Nat} {n : Nat} {p : rP} {k : Nat} {vs : List jv} {j : Nat} {σ σ' : Nat → jcell} (h : ∀ a, a < n → ∀ q ∈ ra_dep.getD k [], q.1 = K a → aSm vs q (σ a) (σ' a)) (hb : rTglrrlrr K n p k (vs.take j) σ) : rTglrrlrr K n p k (vs.take j) σ' := by
  unfold rTglrrlrr at hb ⊢
  cases c : Nat.ble k 75 with
  | true =>
    rw [c] at hb
    exact rTglrrlrrl_st h hb
  | false =>
    rw [c] at hb
    exact rTglrrlrrr_st h hb
theorem rTglrrlr_st {K : Nat → Nat} {n : Nat} {p : rP} {k : Nat} {vs : List jv} {j : Nat} {σ σ' : Nat → jcell} (h : ∀ a, a < n → ∀ q ∈ ra_dep.getD k [], q.1 = K a → aSm vs q (σ a) (σ' a)) (hb : rTglrrlr K n p k (vs.take j) σ) : rTglrrlr K n p k (vs.take j) σ' := by
  unfold rTglrrlr at hb ⊢
  cases c : Nat.ble k 74 with
  | true =>
    rw [c] at hb
    exact rTglrrlrl_st h hb
  | false =>
    rw [c] at hb
    exact rTglrrlrr_st h hb
theorem rTglrrl_st {K : Nat → Nat} {n : Nat} {p : rP} {k : Nat} {vs : List jv} {j : Nat} {σ σ' : Nat → jcell} (h : ∀ a, a < n → ∀ q ∈ ra_dep.getD k [], q.1 = K a → aSm vs q (σ a) (σ' a)) (hb : rTglrrl K n p k (vs.take j) σ) : rTglrrl K n p k (vs.take j) σ' := by
  unfold rTglrrl at hb ⊢
  cases c : Nat.ble k 72 with
  | true =>
    rw [c] at hb
    exact rTglrrll_st h hb
  | false =>
    rw [c] at hb
    exact rTglrrlr_st h hb
theorem rTglrrrlll_st {K : Nat → Nat} {n : Nat} {p : rP} {k : Nat} {vs : List jv} {j : Nat} {σ σ' : Nat → jcell} (h : ∀ a, a < n → ∀ q ∈ ra_dep.getD k [], q.1 = K a → aSm vs q (σ a) (σ' a)) (hb : rTglrrrlll K n p k (vs.take j) σ) : rTglrrrlll K n p k (vs.take j) σ' := by
  unfold rTglrrrlll at hb ⊢
  cases c : Nat.beq k 77 with
  | true =>
    rw [c] at hb
    obtain rfl := Nat.eq_of_beq_eq_true c
    exact rs_77 (p := p) h hb
  | false =>
    rw [c] at hb
    exact hb.elim
theorem rTglrrrllr_st {K : Nat → Nat} {n : Nat} {p : rP} {k : Nat} {vs : List jv} {j : Nat} {σ σ' : Nat → jcell} (h : ∀ a, a < n → ∀ q ∈ ra_dep.getD k [], q.1 = K a → aSm vs q (σ a) (σ' a)) (hb : rTglrrrllr K n p k (vs.take j) σ) : rTglrrrllr K n p k (vs.take j) σ' := by
  unfold rTglrrrllr at hb ⊢
  cases c : Nat.beq k 78 with
  | true =>
    rw [c] at hb
    obtain rfl := Nat.eq_of_beq_eq_true c
    exact rs_78 (p := p) h hb
  | false =>
    rw [c] at hb
    exact hb.elim
theorem rTglrrrll_st {K : Nat → Nat} {n : Nat} {p : rP} {k : Nat} {vs : List jv} {j : Nat} {σ σ' : Nat → jcell} (h : ∀ a, a < n → ∀ q ∈ ra_dep.getD k [], q.1 = K a → aSm vs q (σ a) (σ' a)) (hb : rTglrrrll K n p k (vs.take j) σ) : rTglrrrll K n p k (vs.take j) σ' := by
  unfold rTglrrrll at hb ⊢
  cases c : Nat.ble k 77 with
  | true =>
    rw [c] at hb
    exact rTglrrrlll_st h hb
  | false =>
    rw [c] at hb
    exact rTglrrrllr_st h hb
theorem rTglrrrlrl_st {K : Nat → Nat} {n : Nat} {p : rP} {k : Nat} {vs : List jv} {j : Nat} {σ σ' : Nat → jcell} (h : ∀ a, a < n → ∀ q ∈ ra_dep.getD k [], q.1 = K a → aSm vs q (σ a) (σ' a)) (hb : rTglrrrlrl K n p k (vs.take j) σ) : rTglrrrlrl K n p k (vs.take j) σ' := by
  unfold rTglrrrlrl at hb ⊢
  cases c : Nat.beq k 79 with
  | true =>
    rw [c] at hb
    obtain rfl := Nat.eq_of_beq_eq_true c
    exact rs_79 (p := p) h hb
  | false =>
    rw [c] at hb
    exact hb.elim
theorem rTglrrrlrr_st {K : Nat → Nat} {n : Nat} {p : rP} {k : Nat} {vs : List jv} {j : Nat} {σ σ' : Nat → jcell} (h : ∀ a, a < n → ∀ q ∈ ra_dep.getD k [], q.1 = K a → aSm vs q (σ a) (σ' a)) (hb : rTglrrrlrr K n p k (vs.take j) σ) : rTglrrrlrr K n p k (vs.take j) σ' := by
  unfold rTglrrrlrr at hb ⊢
  cases c : Nat.beq k 80 with
  | true =>
    rw [c] at hb
    obtain rfl := Nat.eq_of_beq_eq_true c
    exact rs_80 (p := p) h hb
  | false =>
    rw [c] at hb
    exact hb.elim
theorem rTglrrrlr_st {K : Nat → Nat} {n : Nat} {p : rP} {k : Nat} {vs : List jv} {j : Nat} {σ σ' : Nat → jcell} (h : ∀ a, a < n → ∀ q ∈ ra_dep.getD k [], q.1 = K a → aSm vs q (σ a) (σ' a)) (hb : rTglrrrlr K n p k (vs.take j) σ) : rTglrrrlr K n p k (vs.take j) σ' := by
  unfold rTglrrrlr at hb ⊢
  cases c : Nat.ble k 79 with
  | true =>
    rw [c] at hb
    exact rTglrrrlrl_st h hb
  | false =>
    rw [c] at hb
    exact rTglrrrlrr_st h hb
theorem rTglrrrl_st {K : Nat → Nat} {n : Nat} {p : rP} {k : Nat} {vs : List jv} {j : Nat} {σ σ' : Nat → jcell} (h : ∀ a, a < n → ∀ q ∈ ra_dep.getD k [], q.1 = K a → aSm vs q (σ a) (σ' a)) (hb : rTglrrrl K n p k (vs.take j) σ) : rTglrrrl K n p k (vs.take j) σ' := by
  unfold rTglrrrl at hb ⊢
  cases c : Nat.ble k 78 with
  | true =>
    rw [c] at hb
    exact rTglrrrll_st h hb
  | false =>
    rw [c] at hb
    exact rTglrrrlr_st h hb
theorem rTglrrrrll_st {K : Nat → Nat} {n : Nat} {p : rP} {k : Nat} {vs : List jv} {j : Nat} {σ σ' : Nat → jcell} (h : ∀ a, a < n → ∀ q ∈ ra_dep.getD k [], q.1 = K a → aSm vs q (σ a) (σ' a)) (hb : rTglrrrrll K n p k (vs.take j) σ) : rTglrrrrll K n p k (vs.take j) σ' := by
  unfold rTglrrrrll at hb ⊢
  cases c : Nat.beq k 81 with
  | true =>
    rw [c] at hb
    obtain rfl := Nat.eq_of_beq_eq_true c
    exact rs_81 (p := p) h hb
  | false =>
    rw [c] at hb
    exact hb.elim
theorem rTglrrrrlr_st {K : Nat → Nat} {n : Nat} {p : rP} {k : Nat} {vs : List jv} {j : Nat} {σ σ' : Nat → jcell} (h : ∀ a, a < n → ∀ q ∈ ra_dep.getD k [], q.1 = K a → aSm vs q (σ a) (σ' a)) (hb : rTglrrrrlr K n p k (vs.take j) σ) : rTglrrrrlr K n p k (vs.take j) σ' := by
  unfold rTglrrrrlr at hb ⊢
  cases c : Nat.beq k 82 with
  | true =>
    rw [c] at hb
    obtain rfl := Nat.eq_of_beq_eq_true c
    exact rs_82 (p := p) h hb
  | false =>
    rw [c] at hb
    exact hb.elim
theorem rTglrrrrl_st {K : Nat → Nat} {n : Nat} {p : rP} {k : Nat} {vs : List jv} {j : Nat} {σ σ' : Nat → jcell} (h : ∀ a, a < n → ∀ q ∈ ra_dep.getD k [], q.1 = K a → aSm vs q (σ a) (σ' a)) (hb : rTglrrrrl K n p k (vs.take j) σ) : rTglrrrrl K n p k (vs.take j) σ' := by
  unfold rTglrrrrl at hb ⊢
  cases c : Nat.ble k 81 with
  | true =>
    rw [c] at hb
    exact rTglrrrrll_st h hb
  | false =>
    rw [c] at hb
    exact rTglrrrrlr_st h hb
theorem rTglrrrrrl_st {K : Nat → Nat} {n : Nat} {p : rP} {k : Nat} {vs : List jv} {j : Nat} {σ σ' : Nat → jcell} (h : ∀ a, a < n → ∀ q ∈ ra_dep.getD k [], q.1 = K a → aSm vs q (σ a) (σ' a)) (hb : rTglrrrrrl K n p k (vs.take j) σ) : rTglrrrrrl K n p k (vs.take j) σ' := by
  unfold rTglrrrrrl at hb ⊢
  cases c : Nat.beq k 83 with
  | true =>
    rw [c] at hb
    obtain rfl := Nat.eq_of_beq_eq_true c
    exact rs_83 (p := p) h hb
  | false =>
    rw [c] at hb
    exact hb.elim
theorem rTglrrrrrr_st {K : Nat → Nat} {n : Nat} {p : rP} {k : Nat} {vs : List jv} {j : Nat} {σ σ' : Nat → jcell} (h : ∀ a, a < n → ∀ q ∈ ra_dep.getD k [], q.1 = K a → aSm vs q (σ a) (σ' a)) (hb : rTglrrrrrr K n p k (vs.take j) σ) : rTglrrrrrr K n p k (vs.take j) σ' := by
  unfold rTglrrrrrr at hb ⊢
  cases c : Nat.beq k 84 with
  | true =>
    rw [c] at hb
    obtain rfl := Nat.eq_of_beq_eq_true c
    exact rs_84 (p := p) h hb
  | false =>
    rw [c] at hb
    exact hb.elim
theorem rTglrrrrr_st {K : Nat → Nat} {n : Nat} {p : rP} {k : Nat} {vs : List jv} {j : Nat} {σ σ' : Nat → jcell} (h : ∀ a, a < n → ∀ q ∈ ra_dep.getD k [], q.1 = K a → aSm vs q (σ a) (σ' a)) (hb : rTglrrrrr K n p k (vs.take j) σ) : rTglrrrrr K n p k (vs.take j) σ' := by
  unfold rTglrrrrr at hb ⊢
  cases c : Nat.ble k 83 with
  | true =>
    rw [c] at hb
    exact rTglrrrrrl_st h hb
  | false =>
    rw [c] at hb
    exact rTglrrrrrr_st h hb
theorem rTglrrrr_st {K : Nat → Nat} {n : Nat} {p : rP} {k : Nat} {vs : List jv} {j : Nat} {σ σ' : Nat → jcell} (h : ∀ a, a < n → ∀ q ∈ ra_dep.getD k [], q.1 = K a → aSm vs q (σ a) (σ' a)) (hb : rTglrrrr K n p k (vs.take j) σ) : rTglrrrr K n p k (vs.take j) σ' := by
  unfold rTglrrrr at hb ⊢
  cases c : Nat.ble k 82 with
  | true =>
    rw [c] at hb
    exact rTglrrrrl_st h hb
  | false =>
    rw [c] at hb
    exact rTglrrrrr_st h hb
theorem rTglrrr_st {K : Nat → Nat} {n : Nat} {p : rP} {k : Nat} {vs : List jv} {j : Nat} {σ σ' : Nat → jcell} (h : ∀ a, a < n → ∀ q ∈ ra_dep.getD k [], q.1 = K a → aSm vs q (σ a) (σ' a)) (hb : rTglrrr K n p k (vs.take j) σ) : rTglrrr K n p k (vs.take j) σ' := by
  unfold rTglrrr at hb ⊢
  cases c : Nat.ble k 80 with
  | true =>
    rw [c] at hb
    exact rTglrrrl_st h hb
  | false =>
    rw [c] at hb
    exact rTglrrrr_st h hb
theorem rTglrr_st {K : Nat → Nat} {n : Nat} {p : rP} {k : Nat} {vs : List jv} {j : Nat} {σ σ' : Nat → jcell} (h : ∀ a, a < n → ∀ q ∈ ra_dep.getD k [], q.1 = K a → aSm vs q (σ a) (σ' a)) (hb : rTglrr K n p k (vs.take j) σ) : rTglrr K n p k (vs.take j) σ' := by
  unfold rTglrr at hb ⊢
  cases c : Nat.ble k 76 with
  | true =>
    rw [c] at hb
    exact rTglrrl_st h hb
  | false =>
    rw [c] at hb
    exact rTglrrr_st h hb
theorem rTglr_st {K : Nat → Nat} {n : Nat} {p : rP} {k : Nat} {vs : List jv} {j : Nat} {σ σ' : Nat → jcell} (h : ∀ a, a < n → ∀ q ∈ ra_dep.getD k [], q.1 = K a → aSm vs q (σ a) (σ' a)) (hb : rTglr K n p k (vs.take j) σ) : rTglr K n p k (vs.take j) σ' := by
  unfold rTglr at hb ⊢
  cases c : Nat.ble k 68 with
  | true =>
    rw [c] at hb
    exact rTglrl_st h hb
  | false =>
    rw [c] at hb
    exact rTglrr_st h hb
theorem rTgl_st {K : Nat → Nat} {n : Nat} {p : rP} {k : Nat} {vs : List jv} {j : Nat} {σ σ' : Nat → jcell} (h : ∀ a, a < n → ∀ q ∈ ra_dep.getD k [], q.1 = K a → aSm vs q (σ a) (σ' a)) (hb : rTgl K n p k (vs.take j) σ) : rTgl K n p k (vs.take j) σ' := by
  unfold rTgl at hb ⊢
  cases c : Nat.ble k 53 with
  | true =>
    rw [c] at hb
    exact rTgll_st h hb
  | false =>
    rw [c] at hb
    exact rTglr_st h hb
theorem rTgrlllll_st {K : Nat → Nat} {n : Nat} {p : rP} {k : Nat} {vs : List jv} {j : Nat} {σ σ' : Nat → jcell} (h : ∀ a, a < n → ∀ q ∈ ra_dep.getD k [], q.1 = K a → aSm vs q (σ a) (σ' a)) (hb : rTgrlllll K n p k (vs.take j) σ) : rTgrlllll K n p k (vs.take j) σ' := by
  unfold rTgrlllll at hb ⊢
  cases c : Nat.beq k 85 with
  | true =>
    rw [c] at hb
    obtain rfl := Nat.eq_of_beq_eq_true c
    exact rs_85 (p := p) h hb
  | false =>
    rw [c] at hb
    exact hb.elim
theorem rTgrllllrl_st {K : Nat → Nat} {n : Nat} {p : rP} {k : Nat} {vs : List jv} {j : Nat} {σ σ' : Nat → jcell} (h : ∀ a, a < n → ∀ q ∈ ra_dep.getD k [], q.1 = K a → aSm vs q (σ a) (σ' a)) (hb : rTgrllllrl K n p k (vs.take j) σ) : rTgrllllrl K n p k (vs.take j) σ' := by
  unfold rTgrllllrl at hb ⊢
  cases c : Nat.beq k 86 with
  | true =>
    rw [c] at hb
    obtain rfl := Nat.eq_of_beq_eq_true c
    exact rs_86 (p := p) h hb
  | false =>
    rw [c] at hb
    exact hb.elim
theorem rTgrllllrr_st {K : Nat → Nat} {n : Nat} {p : rP} {k : Nat} {vs : List jv} {j : Nat} {σ σ' : Nat → jcell} (h : ∀ a, a < n → ∀ q ∈ ra_dep.getD k [], q.1 = K a → aSm vs q (σ a) (σ' a)) (hb : rTgrllllrr K n p k (vs.take j) σ) : rTgrllllrr K n p k (vs.take j) σ' := by
  unfold rTgrllllrr at hb ⊢
  cases c : Nat.beq k 87 with
  | true =>
    rw [c] at hb
    obtain rfl := Nat.eq_of_beq_eq_true c
    exact rs_87 (p := p) h hb
  | false =>
    rw [c] at hb
    exact hb.elim
theorem rTgrllllr_st {K : Nat → Nat} {n : Nat} {p : rP} {k : Nat} {vs : List jv} {j : Nat} {σ σ' : Nat → jcell} (h : ∀ a, a < n → ∀ q ∈ ra_dep.getD k [], q.1 = K a → aSm vs q (σ a) (σ' a)) (hb : rTgrllllr K n p k (vs.take j) σ) : rTgrllllr K n p k (vs.take j) σ' := by
  unfold rTgrllllr at hb ⊢
  cases c : Nat.ble k 86 with
  | true =>
    rw [c] at hb
    exact rTgrllllrl_st h hb
  | false =>
    rw [c] at hb
    exact rTgrllllrr_st h hb
theorem rTgrllll_st {K : Nat → Nat} {n : Nat} {p : rP} {k : Nat} {vs : List jv} {j : Nat} {σ σ' : Nat → jcell} (h : ∀ a, a < n → ∀ q ∈ ra_dep.getD k [], q.1 = K a → aSm vs q (σ a) (σ' a)) (hb : rTgrllll K n p k (vs.take j) σ) : rTgrllll K n p k (vs.take j) σ' := by
  unfold rTgrllll at hb ⊢
  cases c : Nat.ble k 85 with
  | true =>
    rw [c] at hb
    exact rTgrlllll_st h hb
  | false =>
    rw [c] at hb
    exact rTgrllllr_st h hb
theorem rTgrlllrll_st {K : Nat → Nat} {n : Nat} {p : rP} {k : Nat} {vs : List jv} {j : Nat} {σ σ' : Nat → jcell} (h : ∀ a, a < n → ∀ q ∈ ra_dep.getD k [], q.1 = K a → aSm vs q (σ a) (σ' a)) (hb : rTgrlllrll K n p k (vs.take j) σ) : rTgrlllrll K n p k (vs.take j) σ' := by
  unfold rTgrlllrll at hb ⊢
  cases c : Nat.beq k 88 with
  | true =>
    rw [c] at hb
    obtain rfl := Nat.eq_of_beq_eq_true c
    exact rs_88 (p := p) h hb
  | false =>
    rw [c] at hb
    exact hb.elim
theorem rTgrlllrlr_st {K : Nat → Nat} {n : Nat} {p : rP} {k : Nat} {vs : List jv} {j : Nat} {σ σ' : Nat → jcell} (h : ∀ a, a < n → ∀ q ∈ ra_dep.getD k [], q.1 = K a → aSm vs q (σ a) (σ' a)) (hb : rTgrlllrlr K n p k (vs.take j) σ) : rTgrlllrlr K n p k (vs.take j) σ' := by
  unfold rTgrlllrlr at hb ⊢
  cases c : Nat.beq k 89 with
  | true =>
    rw [c] at hb
    obtain rfl := Nat.eq_of_beq_eq_true c
    exact rs_89 (p := p) h hb
  | false =>
    rw [c] at hb
    exact hb.elim
theorem rTgrlllrl_st {K : Nat → Nat} {n : Nat} {p : rP} {k : Nat} {vs : List jv} {j : Nat} {σ σ' : Nat → jcell} (h : ∀ a, a < n → ∀ q ∈ ra_dep.getD k [], q.1 = K a → aSm vs q (σ a) (σ' a)) (hb : rTgrlllrl K n p k (vs.take j) σ) : rTgrlllrl K n p k (vs.take j) σ' := by
  unfold rTgrlllrl at hb ⊢
  cases c : Nat.ble k 88 with
  | true =>
    rw [c] at hb
    exact rTgrlllrll_st h hb
  | false =>
    rw [c] at hb
    exact rTgrlllrlr_st h hb
theorem rTgrlllrrl_st {K : Nat → Nat} {n : Nat} {p : rP} {k : Nat} {vs : List jv} {j : Nat} {σ σ' : Nat → jcell} (h : ∀ a, a < n → ∀ q ∈ ra_dep.getD k [], q.1 = K a → aSm vs q (σ a) (σ' a)) (hb : rTgrlllrrl K n p k (vs.take j) σ) : rTgrlllrrl K n p k (vs.take j) σ' := by
  unfold rTgrlllrrl at hb ⊢
  cases c : Nat.beq k 90 with
  | true =>
    rw [c] at hb
    obtain rfl := Nat.eq_of_beq_eq_true c
    exact rs_90 (p := p) h hb
  | false =>
    rw [c] at hb
    exact hb.elim
theorem rTgrlllrrr_st {K : Nat → Nat} {n : Nat} {p : rP} {k : Nat} {vs : List jv} {j : Nat} {σ σ' : Nat → jcell} (h : ∀ a, a < n → ∀ q ∈ ra_dep.getD k [], q.1 = K a → aSm vs q (σ a) (σ' a)) (hb : rTgrlllrrr K n p k (vs.take j) σ) : rTgrlllrrr K n p k (vs.take j) σ' := by
  unfold rTgrlllrrr at hb ⊢
  cases c : Nat.beq k 91 with
  | true =>
    rw [c] at hb
    obtain rfl := Nat.eq_of_beq_eq_true c
    exact rs_91 (p := p) h hb
  | false =>
    rw [c] at hb
    exact hb.elim
theorem rTgrlllrr_st {K : Nat → Nat} {n : Nat} {p : rP} {k : Nat} {vs : List jv} {j : Nat} {σ σ' : Nat → jcell} (h : ∀ a, a < n → ∀ q ∈ ra_dep.getD k [], q.1 = K a → aSm vs q (σ a) (σ' a)) (hb : rTgrlllrr K n p k (vs.take j) σ) : rTgrlllrr K n p k (vs.take j) σ' := by
  unfold rTgrlllrr at hb ⊢
  cases c : Nat.ble k 90 with
  | true =>
    rw [c] at hb
    exact rTgrlllrrl_st h hb
  | false =>
    rw [c] at hb
    exact rTgrlllrrr_st h hb
theorem rTgrlllr_st {K : Nat → Nat} {n : Nat} {p : rP} {k : Nat} {vs : List jv} {j : Nat} {σ σ' : Nat → jcell} (h : ∀ a, a < n → ∀ q ∈ ra_dep.getD k [], q.1 = K a → aSm vs q (σ a) (σ' a)) (hb : rTgrlllr K n p k (vs.take j) σ) : rTgrlllr K n p k (vs.take j) σ' := by
  unfold rTgrlllr at hb ⊢
  cases c : Nat.ble k 89 with
  | true =>
    rw [c] at hb
    exact rTgrlllrl_st h hb
  | false =>
    rw [c] at hb
    exact rTgrlllrr_st h hb
theorem rTgrlll_st {K : Nat → Nat} {n : Nat} {p : rP} {k : Nat} {vs : List jv} {j : Nat} {σ σ' : Nat → jcell} (h : ∀ a, a < n → ∀ q ∈ ra_dep.getD k [], q.1 = K a → aSm vs q (σ a) (σ' a)) (hb : rTgrlll K n p k (vs.take j) σ) : rTgrlll K n p k (vs.take j) σ' := by
  unfold rTgrlll at hb ⊢
  cases c : Nat.ble k 87 with
  | true =>
    rw [c] at hb
    exact rTgrllll_st h hb
  | false =>
    rw [c] at hb
    exact rTgrlllr_st h hb
theorem rTgrllrlll_st {K : Nat → Nat} {n : Nat} {p : rP} {k : Nat} {vs : List jv} {j : Nat} {σ σ' : Nat → jcell} (h : ∀ a, a < n → ∀ q ∈ ra_dep.getD k [], q.1 = K a → aSm vs q (σ a) (σ' a)) (hb : rTgrllrlll K n p k (vs.take j) σ) : rTgrllrlll K n p k (vs.take j) σ' := by
  unfold rTgrllrlll at hb ⊢
  cases c : Nat.beq k 92 with
  | true =>
    rw [c] at hb
    obtain rfl := Nat.eq_of_beq_eq_true c
    exact rs_92 (p := p) h hb
  | false =>
    rw [c] at hb
    exact hb.elim
theorem rTgrllrllr_st {K : Nat → Nat} {n : Nat} {p : rP} {k : Nat} {vs : List jv} {j : Nat} {σ σ' : Nat → jcell} (h : ∀ a, a < n → ∀ q ∈ ra_dep.getD k [], q.1 = K a → aSm vs q (σ a) (σ' a)) (hb : rTgrllrllr K n p k (vs.take j) σ) : rTgrllrllr K n p k (vs.take j) σ' := by
  unfold rTgrllrllr at hb ⊢
  cases c : Nat.beq k 93 with
  | true =>
    rw [c] at hb
    obtain rfl := Nat.eq_of_beq_eq_true c
    exact rs_93 (p := p) h hb
  | false =>
    rw [c] at hb
    exact hb.elim
theorem rTgrllrll_st {K : Nat → Nat} {n : Nat} {p : rP} {k : Nat} {vs : List jv} {j : Nat} {σ σ' : Nat → jcell} (h : ∀ a, a < n → ∀ q ∈ ra_dep.getD k [], q.1 = K a → aSm vs q (σ a) (σ' a)) (hb : rTgrllrll K n p k (vs.take j) σ) : rTgrllrll K n p k (vs.take j) σ' := by
  unfold rTgrllrll at hb ⊢
  cases c : Nat.ble k 92 with
  | true =>
    rw [c] at hb
    exact rTgrllrlll_st h hb
  | false =>
    rw [c] at hb
    exact rTgrllrllr_st h hb
theorem rTgrllrlrl_st {K : Nat → Nat} {n : Nat} {p : rP} {k : Nat} {vs : List jv} {j : Nat} {σ σ' : Nat → jcell} (h : ∀ a, a < n → ∀ q ∈ ra_dep.getD k [], q.1 = K a → aSm vs q (σ a) (σ' a)) (hb : rTgrllrlrl K n p k (vs.take j) σ) : rTgrllrlrl K n p k (vs.take j) σ' := by
  unfold rTgrllrlrl at hb ⊢
  cases c : Nat.beq k 94 with
  | true =>
    rw [c] at hb
    obtain rfl := Nat.eq_of_beq_eq_true c
    exact rs_94 (p := p) h hb
  | false =>
    rw [c] at hb
    exact hb.elim
theorem rTgrllrlrr_st {K : Nat → Nat} {n : Nat} {p : rP} {k : Nat} {vs : List jv} {j : Nat} {σ σ' : Nat → jcell} (h : ∀ a, a < n → ∀ q ∈ ra_dep.getD k [], q.1 = K a → aSm vs q (σ a) (σ' a)) (hb : rTgrllrlrr K n p k (vs.take j) σ) : rTgrllrlrr K n p k (vs.take j) σ' := by
  unfold rTgrllrlrr at hb ⊢
  cases c : Nat.beq k 95 with
  | true =>
    rw [c] at hb
    obtain rfl := Nat.eq_of_beq_eq_true c
    exact rs_95 (p := p) h hb
  | false =>
    rw [c] at hb
    exact hb.elim
theorem rTgrllrlr_st {K : Nat → Nat} {n : Nat} {p : rP} {k : Nat} {vs : List jv} {j : Nat} {σ σ' : Nat → jcell} (h : ∀ a, a < n → ∀ q ∈ ra_dep.getD k [], q.1 = K a → aSm vs q (σ a) (σ' a)) (hb : rTgrllrlr K n p k (vs.take j) σ) : rTgrllrlr K n p k (vs.take j) σ' := by
  unfold rTgrllrlr at hb ⊢
  cases c : Nat.ble k 94 with
  | true =>
    rw [c] at hb
    exact rTgrllrlrl_st h hb
  | false =>
    rw [c] at hb
    exact rTgrllrlrr_st h hb
theorem rTgrllrl_st {K : Nat → Nat} {n : Nat} {p : rP} {k : Nat} {vs : List jv} {j : Nat} {σ σ' : Nat → jcell} (h : ∀ a, a < n → ∀ q ∈ ra_dep.getD k [], q.1 = K a → aSm vs q (σ a) (σ' a)) (hb : rTgrllrl K n p k (vs.take j) σ) : rTgrllrl K n p k (vs.take j) σ' := by
  unfold rTgrllrl at hb ⊢
  cases c : Nat.ble k 93 with
  | true =>
    rw [c] at hb
    exact rTgrllrll_st h hb
  | false =>
    rw [c] at hb
    exact rTgrllrlr_st h hb
theorem rTgrllrrll_st {K : Nat → Nat} {n : Nat} {p : rP} {k : Nat} {vs : List jv} {j : Nat} {σ σ' : Nat → jcell} (h : ∀ a, a < n → ∀ q ∈ ra_dep.getD k [], q.1 = K a → aSm vs q (σ a) (σ' a)) (hb : rTgrllrrll K n p k (vs.take j) σ) : rTgrllrrll K n p k (vs.take j) σ' := by
  unfold rTgrllrrll at hb ⊢
  cases c : Nat.beq k 96 with
  | true =>
    rw [c] at hb
    obtain rfl := Nat.eq_of_beq_eq_true c
    exact rs_96 (p := p) h hb
  | false =>
    rw [c] at hb
    exact hb.elim
theorem rTgrllrrlr_st {K : Nat → Nat} {n : Nat} {p : rP} {k : Nat} {vs : List jv} {j : Nat} {σ σ' : Nat → jcell} (h : ∀ a, a < n → ∀ q ∈ ra_dep.getD k [], q.1 = K a → aSm vs q (σ a) (σ' a)) (hb : rTgrllrrlr K n p k (vs.take j) σ) : rTgrllrrlr K n p k (vs.take j) σ' := by
  unfold rTgrllrrlr at hb ⊢
  cases c : Nat.beq k 97 with
  | true =>
    rw [c] at hb
    obtain rfl := Nat.eq_of_beq_eq_true c
    exact rs_97 (p := p) h hb
  | false =>
    rw [c] at hb
    exact hb.elim
theorem rTgrllrrl_st {K : Nat → Nat} {n : Nat} {p : rP} {k : Nat} {vs : List jv} {j : Nat} {σ σ' : Nat → jcell} (h : ∀ a, a < n → ∀ q ∈ ra_dep.getD k [], q.1 = K a → aSm vs q (σ a) (σ' a)) (hb : rTgrllrrl K n p k (vs.take j) σ) : rTgrllrrl K n p k (vs.take j) σ' := by
  unfold rTgrllrrl at hb ⊢
  cases c : Nat.ble k 96 with
  | true =>
    rw [c] at hb
    exact rTgrllrrll_st h hb
  | false =>
    rw [c] at hb
    exact rTgrllrrlr_st h hb
theorem rTgrllrrrl_st {K : Nat → Nat} {n : Nat} {p : rP} {k : Nat} {vs : List jv} {j : Nat} {σ σ' : Nat → jcell} (h : ∀ a, a < n → ∀ q ∈ ra_dep.getD k [], q.1 = K a → aSm vs q (σ a) (σ' a)) (hb : rTgrllrrrl K n p k (vs.take j) σ) : rTgrllrrrl K n p k (vs.take j) σ' := by
  unfold rTgrllrrrl at hb ⊢
  cases c : Nat.beq k 98 with
  | true =>
    rw [c] at hb
    obtain rfl := Nat.eq_of_beq_eq_true c
    exact rs_98 (p := p) h hb
  | false =>
    rw [c] at hb
    exact hb.elim
theorem rTgrllrrrr_st {K : Nat → Nat} {n : Nat} {p : rP} {k : Nat} {vs : List jv} {j : Nat} {σ σ' : Nat → jcell} (h : ∀ a, a < n → ∀ q ∈ ra_dep.getD k [], q.1 = K a → aSm vs q (σ a) (σ' a)) (hb : rTgrllrrrr K n p k (vs.take j) σ) : rTgrllrrrr K n p k (vs.take j) σ' := by
  unfold rTgrllrrrr at hb ⊢
  cases c : Nat.beq k 99 with
  | true =>
    rw [c] at hb
    obtain rfl := Nat.eq_of_beq_eq_true c
    exact rs_99 (p := p) h hb
  | false =>
    rw [c] at hb
    exact hb.elim
theorem rTgrllrrr_st {K : Nat → Nat} {n : Nat} {p : rP} {k : Nat} {vs : List jv} {j : Nat} {σ σ' : Nat → jcell} (h : ∀ a, a < n → ∀ q ∈ ra_dep.getD k [], q.1 = K a → aSm vs q (σ a) (σ' a)) (hb : rTgrllrrr K n p k (vs.take j) σ) : rTgrllrrr K n p k (vs.take j) σ' := by
  unfold rTgrllrrr at hb ⊢
  cases c : Nat.ble k 98 with
  | true =>
    rw [c] at hb
    exact rTgrllrrrl_st h hb
  | false =>
    rw [c] at hb
    exact rTgrllrrrr_st h hb
theorem rTgrllrr_st {K : Nat → Nat} {n : Nat} {p : rP} {k : Nat} {vs : List jv} {j : Nat} {σ σ' : Nat → jcell} (h : ∀ a, a < n → ∀ q ∈ ra_dep.getD k [], q.1 = K a → aSm vs q (σ a) (σ' a)) (hb : rTgrllrr K n p k (vs.take j) σ) : rTgrllrr K n p k (vs.take j) σ' := by
  unfold rTgrllrr at hb ⊢
  cases c : Nat.ble k 97 with
  | true =>
    rw [c] at hb
    exact rTgrllrrl_st h hb
  | false =>
    rw [c] at hb
    exact rTgrllrrr_st h hb
theorem rTgrllr_st {K : Nat → Nat} {n : Nat} {p : rP} {k : Nat} {vs : List jv} {j : Nat} {σ σ' : Nat → jcell} (h : ∀ a, a < n → ∀ q ∈ ra_dep.getD k [], q.1 = K a → aSm vs q (σ a) (σ' a)) (hb : rTgrllr K n p k (vs.take j) σ) : rTgrllr K n p k (vs.take j) σ' := by
  unfold rTgrllr at hb ⊢
  cases c : Nat.ble k 95 with
  | true =>
    rw [c] at hb
    exact rTgrllrl_st h hb
  | false =>
    rw [c] at hb
    exact rTgrllrr_st h hb
theorem rTgrll_st {K : Nat → Nat} {n : Nat} {p : rP} {k : Nat} {vs : List jv} {j : Nat} {σ σ' : Nat → jcell} (h : ∀ a, a < n → ∀ q ∈ ra_dep.getD k [], q.1 = K a → aSm vs q (σ a) (σ' a)) (hb : rTgrll K n p k (vs.take j) σ) : rTgrll K n p k (vs.take j) σ' := by
  unfold rTgrll at hb ⊢
  cases c : Nat.ble k 91 with
  | true =>
    rw [c] at hb
    exact rTgrlll_st h hb
  | false =>
    rw [c] at hb
    exact rTgrllr_st h hb
theorem rTgrlrllll_st {K : Nat → Nat} {n : Nat} {p : rP} {k : Nat} {vs : List jv} {j : Nat} {σ σ' : Nat → jcell} (h : ∀ a, a < n → ∀ q ∈ ra_dep.getD k [], q.1 = K a → aSm vs q (σ a) (σ' a)) (hb : rTgrlrllll K n p k (vs.take j) σ) : rTgrlrllll K n p k (vs.take j) σ' := by
  unfold rTgrlrllll at hb ⊢
  cases c : Nat.beq k 400 with
  | true =>
    rw [c] at hb
    obtain rfl := Nat.eq_of_beq_eq_true c
    exact rs_400 (p := p) h hb
  | false =>
    rw [c] at hb
    exact hb.elim
theorem rTgrlrlllr_st {K : Nat → Nat} {n : Nat} {p : rP} {k : Nat} {vs : List jv} {j : Nat} {σ σ' : Nat → jcell} (h : ∀ a, a < n → ∀ q ∈ ra_dep.getD k [], q.1 = K a → aSm vs q (σ a) (σ' a)) (hb : rTgrlrlllr K n p k (vs.take j) σ) : rTgrlrlllr K n p k (vs.take j) σ' := by
  unfold rTgrlrlllr at hb ⊢
  cases c : Nat.beq k 401 with
  | true =>
    rw [c] at hb
    obtain rfl := Nat.eq_of_beq_eq_true c
    exact rs_401 (p := p) h hb
  | false =>
    rw [c] at hb
    exact hb.elim
theorem rTgrlrlll_st {K : Nat → Nat} {n : Nat} {p : rP} {k : Nat} {vs : List jv} {j : Nat} {σ σ' : Nat → jcell} (h : ∀ a, a < n → ∀ q ∈ ra_dep.getD k [], q.1 = K a → aSm vs q (σ a) (σ' a)) (hb : rTgrlrlll K n p k (vs.take j) σ) : rTgrlrlll K n p k (vs.take j) σ' := by
  unfold rTgrlrlll at hb ⊢
  cases c : Nat.ble k 400 with
  | true =>
    rw [c] at hb
    exact rTgrlrllll_st h hb
  | false =>
    rw [c] at hb
    exact rTgrlrlllr_st h hb
theorem rTgrlrllrl_st {K : Nat → Nat} {n : Nat} {p : rP} {k : Nat} {vs : List jv} {j : Nat} {σ σ' : Nat → jcell} (h : ∀ a, a < n → ∀ q ∈ ra_dep.getD k [], q.1 = K a → aSm vs q (σ a) (σ' a)) (hb : rTgrlrllrl K n p k (vs.take j) σ) : rTgrlrllrl K n p k (vs.take j) σ' := by
  unfold rTgrlrllrl at hb ⊢
  cases c : Nat.beq k 402 with
  | true =>
    rw [c] at hb
    obtain rfl := Nat.eq_of_beq_eq_true c
    exact rs_402 (p := p) h hb
  | false =>
    rw [c] at hb
    exact hb.elim
theorem rTgrlrllrr_st {K : Nat → Nat} {n : Nat} {p : rP} {k : Nat} {vs : List jv} {j : Nat} {σ σ' : Nat → jcell} (h : ∀ a, a < n → ∀ q ∈ ra_dep.getD k [], q.1 = K a → aSm vs q (σ a) (σ' a)) (hb : rTgrlrllrr K n p k (vs.take j) σ) : rTgrlrllrr K n p k (vs.take j) σ' := by
  unfold rTgrlrllrr at hb ⊢
  cases c : Nat.beq k 403 with
  | true =>
    rw [c] at hb
    obtain rfl := Nat.eq_of_beq_eq_true c
    exact rs_403 (p := p) h hb
  | false =>
    rw [c] at hb
    exact hb.elim
theorem rTgrlrllr_st {K : Nat → Nat} {n : Nat} {p : rP} {k : Nat} {vs : List jv} {j : Nat} {σ σ' : Nat → jcell} (h : ∀ a, a < n → ∀ q ∈ ra_dep.getD k [], q.1 = K a → aSm vs q (σ a) (σ' a)) (hb : rTgrlrllr K n p k (vs.take j) σ) : rTgrlrllr K n p k (vs.take j) σ' := by
  unfold rTgrlrllr at hb ⊢
  cases c : Nat.ble k 402 with
  | true =>
    rw [c] at hb
    exact rTgrlrllrl_st h hb
  | false =>
    rw [c] at hb
    exact rTgrlrllrr_st h hb
theorem rTgrlrll_st {K : Nat → Nat} {n : Nat} {p : rP} {k : Nat} {vs : List jv} {j : Nat} {σ σ' : Nat → jcell} (h : ∀ a, a < n → ∀ q ∈ ra_dep.getD k [], q.1 = K a → aSm vs q (σ a) (σ' a)) (hb : rTgrlrll K n p k (vs.take j) σ) : rTgrlrll K n p k (vs.take j) σ' := by
  unfold rTgrlrll at hb ⊢
  cases c : Nat.ble k 401 with
  | true =>
    rw [c] at hb
    exact rTgrlrlll_st h hb
  | false =>
    rw [c] at hb
    exact rTgrlrllr_st h hb
theorem rTgrlrlrll_st {K : Nat → Nat} {n : Nat} {p : rP} {k : Nat} {vs : List jv} {j : Nat} {σ σ' : Nat → jcell} (h : ∀ a, a < n → ∀ q ∈ ra_dep.getD k [], q.1 = K a → aSm vs q (σ a) (σ' a)) (hb : rTgrlrlrll K n p k (vs.take j) σ) : rTgrlrlrll K n p k (vs.take j) σ' := by
  unfold rTgrlrlrll at hb ⊢
  cases c : Nat.beq k 404 with
  | true =>
    rw [c] at hb
    obtain rfl := Nat.eq_of_beq_eq_true c
    exact rs_404 (p := p) h hb
  | false =>
    rw [c] at hb
    exact hb.elim
theorem rTgrlrlrlr_st {K : Nat → Nat} {n : Nat} {p : rP} {k : Nat} {vs : List jv} {j : Nat} {σ σ' : Nat → jcell} (h : ∀ a, a < n → ∀ q ∈ ra_dep.getD k [], q.1 = K a → aSm vs q (σ a) (σ' a)) (hb : rTgrlrlrlr K n p k (vs.take j) σ) : rTgrlrlrlr K n p k (vs.take j) σ' := by
  unfold rTgrlrlrlr at hb ⊢
  cases c : Nat.beq k 405 with
  | true =>
    rw [c] at hb
    obtain rfl := Nat.eq_of_beq_eq_true c
    exact rs_405 (p := p) h hb
  | false =>
    rw [c] at hb
    exact hb.elim
theorem rTgrlrlrl_st {K : Nat → Nat} {n : Nat} {p : rP} {k : Nat} {vs : List jv} {j : Nat} {σ σ' : Nat → jcell} (h : ∀ a, a < n → ∀ q ∈ ra_dep.getD k [], q.1 = K a → aSm vs q (σ a) (σ' a)) (hb : rTgrlrlrl K n p k (vs.take j) σ) : rTgrlrlrl K n p k (vs.take j) σ' := by
  unfold rTgrlrlrl at hb ⊢
  cases c : Nat.ble k 404 with
  | true =>
    rw [c] at hb
    exact rTgrlrlrll_st h hb
  | false =>
    rw [c] at hb
    exact rTgrlrlrlr_st h hb
theorem rTgrlrlrrl_st {K : Nat → Nat} {n : Nat} {p : rP} {k : Nat} {vs : List jv} {j : Nat} {σ σ' : Nat → jcell} (h : ∀ a, a < n → ∀ q ∈ ra_dep.getD k [], q.1 = K a → aSm vs q (σ a) (σ' a)) (hb : rTgrlrlrrl K n p k (vs.take j) σ) : rTgrlrlrrl K n p k (vs.take j) σ' := by
  unfold rTgrlrlrrl at hb ⊢
  cases c : Nat.beq k 406 with
  | true =>
    rw [c] at hb
    obtain rfl := Nat.eq_of_beq_eq_true c
    exact rs_406 (p := p) h hb
  | false =>
    rw [c] at hb
    exact hb.elim
theorem rTgrlrlrrr_st {K : Nat → Nat} {n : Nat} {p : rP} {k : Nat} {vs : List jv} {j : Nat} {σ σ' : Nat → jcell} (h : ∀ a, a < n → ∀ q ∈ ra_dep.getD k [], q.1 = K a → aSm vs q (σ a) (σ' a)) (hb : rTgrlrlrrr K n p k (vs.take j) σ) : rTgrlrlrrr K n p k (vs.take j) σ' := by
  unfold rTgrlrlrrr at hb ⊢
  cases c : Nat.beq k 407 with
  | true =>
    rw [c] at hb
    obtain rfl := Nat.eq_of_beq_eq_true c
    exact rs_407 (p := p) h hb
  | false =>
    rw [c] at hb
    exact hb.elim
theorem rTgrlrlrr_st {K : Nat → Nat} {n : Nat} {p : rP} {k : Nat} {vs : List jv} {j : Nat} {σ σ' : Nat → jcell} (h : ∀ a, a < n → ∀ q ∈ ra_dep.getD k [], q.1 = K a → aSm vs q (σ a) (σ' a)) (hb : rTgrlrlrr K n p k (vs.take j) σ) : rTgrlrlrr K n p k (vs.take j) σ' := by
  unfold rTgrlrlrr at hb ⊢
  cases c : Nat.ble k 406 with
  | true =>
    rw [c] at hb
    exact rTgrlrlrrl_st h hb
  | false =>
    rw [c] at hb
    exact rTgrlrlrrr_st h hb
theorem rTgrlrlr_st {K : Nat → Nat} {n : Nat} {p : rP} {k : Nat} {vs : List jv} {j : Nat} {σ σ' : Nat → jcell} (h : ∀ a, a < n → ∀ q ∈ ra_dep.getD k [], q.1 = K a → aSm vs q (σ a) (σ' a)) (hb : rTgrlrlr K n p k (vs.take j) σ) : rTgrlrlr K n p k (vs.take j) σ' := by
  unfold rTgrlrlr at hb ⊢
  cases c : Nat.ble k 405 with
  | true =>
    rw [c] at hb
    exact rTgrlrlrl_st h hb
  | false =>
    rw [c] at hb
    exact rTgrlrlrr_st h hb
theorem rTgrlrl_st {K : Nat → Nat} {n : Nat} {p : rP} {k : Nat} {vs : List jv} {j : Nat} {σ σ' : Nat → jcell} (h : ∀ a, a < n → ∀ q ∈ ra_dep.getD k [], q.1 = K a → aSm vs q (σ a) (σ' a)) (hb : rTgrlrl K n p k (vs.take j) σ) : rTgrlrl K n p k (vs.take j) σ' := by
  unfold rTgrlrl at hb ⊢
  cases c : Nat.ble k 403 with
  | true =>
    rw [c] at hb
    exact rTgrlrll_st h hb
  | false =>
    rw [c] at hb
    exact rTgrlrlr_st h hb
theorem rTgrlrrlll_st {K : Nat → Nat} {n : Nat} {p : rP} {k : Nat} {vs : List jv} {j : Nat} {σ σ' : Nat → jcell} (h : ∀ a, a < n → ∀ q ∈ ra_dep.getD k [], q.1 = K a → aSm vs q (σ a) (σ' a)) (hb : rTgrlrrlll K n p k (vs.take j) σ) : rTgrlrrlll K n p k (vs.take j) σ' := by
  unfold rTgrlrrlll at hb ⊢
  cases c : Nat.beq k 408 with
  | true =>
    rw [c] at hb
    obtain rfl := Nat.eq_of_beq_eq_true c
    exact rs_408 (p := p) h hb
  | false =>
    rw [c] at hb
    exact hb.elim
theorem rTgrlrrllr_st {K : Nat → Nat} {n : Nat} {p : rP} {k : Nat} {vs : List jv} {j : Nat} {σ σ' : Nat → jcell} (h : ∀ a, a < n → ∀ q ∈ ra_dep.getD k [], q.1 = K a → aSm vs q (σ a) (σ' a)) (hb : rTgrlrrllr K n p k (vs.take j) σ) : rTgrlrrllr K n p k (vs.take j) σ' := by
  unfold rTgrlrrllr at hb ⊢
  cases c : Nat.beq k 409 with
  | true =>
    rw [c] at hb
    obtain rfl := Nat.eq_of_beq_eq_true c
    exact rs_409 (p := p) h hb
  | false =>
    rw [c] at hb
    exact hb.elim
theorem rTgrlrrll_st {K : Nat → Nat} {n : Nat} {p : rP} {k : Nat} {vs : List jv} {j : Nat} {σ σ' : Nat → jcell} (h : ∀ a, a < n → ∀ q ∈ ra_dep.getD k [], q.1 = K a → aSm vs q (σ a) (σ' a)) (hb : rTgrlrrll K n p k (vs.take j) σ) : rTgrlrrll K n p k (vs.take j) σ' := by
  unfold rTgrlrrll at hb ⊢
  cases c : Nat.ble k 408 with
  | true =>
    rw [c] at hb
    exact rTgrlrrlll_st h hb
  | false =>
    rw [c] at hb
    exact rTgrlrrllr_st h hb
theorem rTgrlrrlrl_st {K : Nat → Nat} {n : Nat} {p : rP} {k : Nat} {vs : List jv} {j : Nat} {σ σ' : Nat → jcell} (h : ∀ a, a < n → ∀ q ∈ ra_dep.getD k [], q.1 = K a → aSm vs q (σ a) (σ' a)) (hb : rTgrlrrlrl K n p k (vs.take j) σ) : rTgrlrrlrl K n p k (vs.take j) σ' := by
  unfold rTgrlrrlrl at hb ⊢
  cases c : Nat.beq k 410 with
  | true =>
    rw [c] at hb
    obtain rfl := Nat.eq_of_beq_eq_true c
    exact rs_410 (p := p) h hb
  | false =>
    rw [c] at hb
    exact hb.elim
theorem rTgrlrrlrr_st {K : Nat → Nat} {n : Nat} {p : rP} {k : Nat} {vs : List jv} {j : Nat} {σ σ' : Nat → jcell} (h : ∀ a, a < n → ∀ q ∈ ra_dep.getD k [], q.1 = K a → aSm vs q (σ a) (σ' a)) (hb : rTgrlrrlrr K n p k (vs.take j) σ) : rTgrlrrlrr K n p k (vs.take j) σ' := by
  unfold rTgrlrrlrr at hb ⊢
  cases c : Nat.beq k 411 with
  | true =>
    rw [c] at hb
    obtain rfl := Nat.eq_of_beq_eq_true c
    exact rs_411 (p := p) h hb
  | false =>
    rw [c] at hb
    exact hb.elim
theorem rTgrlrrlr_st {K : Nat → Nat} {n : Nat} {p : rP} {k : Nat} {vs : List jv} {j : Nat} {σ σ' : Nat → jcell} (h : ∀ a, a < n → ∀ q ∈ ra_dep.getD k [], q.1 = K a → aSm vs q (σ a) (σ' a)) (hb : rTgrlrrlr K n p k (vs.take j) σ) : rTgrlrrlr K n p k (vs.take j) σ' := by
  unfold rTgrlrrlr at hb ⊢
  cases c : Nat.ble k 410 with
  | true =>
    rw [c] at hb
    exact rTgrlrrlrl_st h hb
  | false =>
    rw [c] at hb
    exact rTgrlrrlrr_st h hb
theorem rTgrlrrl_st {K : Nat → Nat} {n : Nat} {p : rP} {k : Nat} {vs : List jv} {j : Nat} {σ σ' : Nat → jcell} (h : ∀ a, a < n → ∀ q ∈ ra_dep.getD k [], q.1 = K a → aSm vs q (σ a) (σ' a)) (hb : rTgrlrrl K n p k (vs.take j) σ) : rTgrlrrl K n p k (vs.take j) σ' := by
  unfold rTgrlrrl at hb ⊢
  cases c : Nat.ble k 409 with
  | true =>
    rw [c] at hb
    exact rTgrlrrll_st h hb
  | false =>
    rw [c] at hb
    exact rTgrlrrlr_st h hb
theorem rTgrlrrrll_st {K : Nat → Nat} {n : Nat} {p : rP} {k : Nat} {vs : List jv} {j : Nat} {σ σ' : Nat → jcell} (h : ∀ a, a < n → ∀ q ∈ ra_dep.getD k [], q.1 = K a → aSm vs q (σ a) (σ' a)) (hb : rTgrlrrrll K n p k (vs.take j) σ) : rTgrlrrrll K n p k (vs.take j) σ' := by
  unfold rTgrlrrrll at hb ⊢
  cases c : Nat.beq k 412 with
  | true =>
    rw [c] at hb
    obtain rfl := Nat.eq_of_beq_eq_true c
    exact rs_412 (p := p) h hb
  | false =>
    rw [c] at hb
    exact hb.elim
theorem rTgrlrrrlr_st {K : Nat → Nat} {n : Nat} {p : rP} {k : Nat} {vs : List jv} {j : Nat} {σ σ' : Nat → jcell} (h : ∀ a, a < n → ∀ q ∈ ra_dep.getD k [], q.1 = K a → aSm vs q (σ a) (σ' a)) (hb : rTgrlrrrlr K n p k (vs.take j) σ) : rTgrlrrrlr K n p k (vs.take j) σ' := by
  unfold rTgrlrrrlr at hb ⊢
  cases c : Nat.beq k 413 with
  | true =>
    rw [c] at hb
    obtain rfl := Nat.eq_of_beq_eq_true c
    exact rs_413 (p := p) h hb
  | false =>
    rw [c] at hb
    exact hb.elim
theorem rTgrlrrrl_st {K : Nat → Nat} {n : Nat} {p : rP} {k : Nat} {vs : List jv} {j : Nat} {σ σ' : Nat → jcell} (h : ∀ a, a < n → ∀ q ∈ ra_dep.getD k [], q.1 = K a → aSm vs q (σ a) (σ' a)) (hb : rTgrlrrrl K n p k (vs.take j) σ) : rTgrlrrrl K n p k (vs.take j) σ' := by
  unfold rTgrlrrrl at hb ⊢
  cases c : Nat.ble k 412 with
  | true =>
    rw [c] at hb
    exact rTgrlrrrll_st h hb
  | false =>
    rw [c] at hb
    exact rTgrlrrrlr_st h hb
theorem rTgrlrrrrl_st {K : Nat → Nat} {n : Nat} {p : rP} {k : Nat} {vs : List jv} {j : Nat} {σ σ' : Nat → jcell} (h : ∀ a, a < n → ∀ q ∈ ra_dep.getD k [], q.1 = K a → aSm vs q (σ a) (σ' a)) (hb : rTgrlrrrrl K n p k (vs.take j) σ) : rTgrlrrrrl K n p k (vs.take j) σ' := by
  unfold rTgrlrrrrl at hb ⊢
  cases c : Nat.beq k 414 with
  | true =>
    rw [c] at hb
    obtain rfl := Nat.eq_of_beq_eq_true c
    exact rs_414 (p := p) h hb
  | false =>
    rw [c] at hb
    exact hb.elim
theorem rTgrlrrrrr_st {K : Nat → Nat} {n : Nat} {p : rP} {k : Nat} {vs : List jv} {j : Nat} {σ σ' : Nat → jcell} (h : ∀ a, a < n → ∀ q ∈ ra_dep.getD k [], q.1 = K a → aSm vs q (σ a) (σ' a)) (hb : rTgrlrrrrr K n p k (vs.take j) σ) : rTgrlrrrrr K n p k (vs.take j) σ' := by
  unfold rTgrlrrrrr at hb ⊢
  cases c : Nat.beq k 415 with
  | true =>
    rw [c] at hb
    obtain rfl := Nat.eq_of_beq_eq_true c
    exact rs_415 (p := p) h hb
  | false =>
    rw [c] at hb
    exact hb.elim
theorem rTgrlrrrr_st {K : Nat → Nat} {n : Nat} {p : rP} {k : Nat} {vs : List jv} {j : Nat} {σ σ' : Nat → jcell} (h : ∀ a, a < n → ∀ q ∈ ra_dep.getD k [], q.1 = K a → aSm vs q (σ a) (σ' a)) (hb : rTgrlrrrr K n p k (vs.take j) σ) : rTgrlrrrr K n p k (vs.take j) σ' := by
  unfold rTgrlrrrr at hb ⊢
  cases c : Nat.ble k 414 with
  | true =>
    rw [c] at hb
    exact rTgrlrrrrl_st h hb
  | false =>
    rw [c] at hb
    exact rTgrlrrrrr_st h hb
theorem rTgrlrrr_st {K : Nat → Nat} {n : Nat} {p : rP} {k : Nat} {vs : List jv} {j : Nat} {σ σ' : Nat → jcell} (h : ∀ a, a < n → ∀ q ∈ ra_dep.getD k [], q.1 = K a → aSm vs q (σ a) (σ' a)) (hb : rTgrlrrr K n p k (vs.take j) σ) : rTgrlrrr K n p k (vs.take j) σ' := by
  unfold rTgrlrrr at hb ⊢
  cases c : Nat.ble k 413 with
  | true =>
    rw [c] at hb
    exact rTgrlrrrl_st h hb
  | false =>
    rw [c] at hb
    exact rTgrlrrrr_st h hb
theorem rTgrlrr_st {K : Nat → Nat} {n : Nat} {p : rP} {k : Nat} {vs : List jv} {j : Nat} {σ σ' : Nat → jcell} (h : ∀ a, a < n → ∀ q ∈ ra_dep.getD k [], q.1 = K a → aSm vs q (σ a) (σ' a)) (hb : rTgrlrr K n p k (vs.take j) σ) : rTgrlrr K n p k (vs.take j) σ' := by
  unfold rTgrlrr at hb ⊢
  cases c : Nat.ble k 411 with
  | true =>
    rw [c] at hb
    exact rTgrlrrl_st h hb
  | false =>
    rw [c] at hb
    exact rTgrlrrr_st h hb
theorem rTgrlr_st {K : Nat → Nat} {n : Nat} {p : rP} {k : Nat} {vs : List jv} {j : Nat} {σ σ' : Nat → jcell} (h : ∀ a, a < n → ∀ q ∈ ra_dep.getD k [], q.1 = K a → aSm vs q (σ a) (σ' a)) (hb : rTgrlr K n p k (vs.take j) σ) : rTgrlr K n p k (vs.take j) σ' := by
  unfold rTgrlr at hb ⊢
  cases c : Nat.ble k 407 with
  | true =>
    rw [c] at hb
    exact rTgrlrl_st h hb
  | false =>
    rw [c] at hb
    exact rTgrlrr_st h hb
theorem rTgrl_st {K : Nat → Nat} {n : Nat} {p : rP} {k : Nat} {vs : List jv} {j : Nat} {σ σ' : Nat → jcell} (h : ∀ a, a < n → ∀ q ∈ ra_dep.getD k [], q.1 = K a → aSm vs q (σ a) (σ' a)) (hb : rTgrl K n p k (vs.take j) σ) : rTgrl K n p k (vs.take j) σ' := by
  unfold rTgrl at hb ⊢
  cases c : Nat.ble k 99 with
  | true =>
    rw [c] at hb
    exact rTgrll_st h hb
  | false =>
    rw [c] at hb
    exact rTgrlr_st h hb
theorem rTgrrlllll_st {K : Nat → Nat} {n : Nat} {p : rP} {k : Nat} {vs : List jv} {j : Nat} {σ σ' : Nat → jcell} (h : ∀ a, a < n → ∀ q ∈ ra_dep.getD k [], q.1 = K a → aSm vs q (σ a) (σ' a)) (hb : rTgrrlllll K n p k (vs.take j) σ) : rTgrrlllll K n p k (vs.take j) σ' := by
  unfold rTgrrlllll at hb ⊢
  cases c : Nat.beq k 416 with
  | true =>
    rw [c] at hb
    obtain rfl := Nat.eq_of_beq_eq_true c
    exact rs_416 (p := p) h hb
  | false =>
    rw [c] at hb
    exact hb.elim
theorem rTgrrllllr_st {K : Nat → Nat} {n : Nat} {p : rP} {k : Nat} {vs : List jv} {j : Nat} {σ σ' : Nat → jcell} (h : ∀ a, a < n → ∀ q ∈ ra_dep.getD k [], q.1 = K a → aSm vs q (σ a) (σ' a)) (hb : rTgrrllllr K n p k (vs.take j) σ) : rTgrrllllr K n p k (vs.take j) σ' := by
  unfold rTgrrllllr at hb ⊢
  cases c : Nat.beq k 417 with
  | true =>
    rw [c] at hb
    obtain rfl := Nat.eq_of_beq_eq_true c
    exact rs_417 (p := p) h hb
  | false =>
    rw [c] at hb
    exact hb.elim
theorem rTgrrllll_st {K : Nat → Nat} {n : Nat} {p : rP} {k : Nat} {vs : List jv} {j : Nat} {σ σ' : Nat → jcell} (h : ∀ a, a < n → ∀ q ∈ ra_dep.getD k [], q.1 = K a → aSm vs q (σ a) (σ' a)) (hb : rTgrrllll K n p k (vs.take j) σ) : rTgrrllll K n p k (vs.take j) σ' := by
  unfold rTgrrllll at hb ⊢
  cases c : Nat.ble k 416 with
  | true =>
    rw [c] at hb
    exact rTgrrlllll_st h hb
  | false =>
    rw [c] at hb
    exact rTgrrllllr_st h hb
theorem rTgrrlllrl_st {K : Nat → Nat} {n : Nat} {p : rP} {k : Nat} {vs : List jv} {j : Nat} {σ σ' : Nat → jcell} (h : ∀ a, a < n → ∀ q ∈ ra_dep.getD k [], q.1 = K a → aSm vs q (σ a) (σ' a)) (hb : rTgrrlllrl K n p k (vs.take j) σ) : rTgrrlllrl K n p k (vs.take j) σ' := by
  unfold rTgrrlllrl at hb ⊢
  cases c : Nat.beq k 418 with
  | true =>
    rw [c] at hb
    obtain rfl := Nat.eq_of_beq_eq_true c
    exact rs_418 (p := p) h hb
  | false =>
    rw [c] at hb
    exact hb.elim
theorem rTgrrlllrr_st {K : Nat → Nat} {n : Nat} {p : rP} {k : Nat} {vs : List jv} {j : Nat} {σ σ' : Nat → jcell} (h : ∀ a, a < n → ∀ q ∈ ra_dep.getD k [], q.1 = K a → aSm vs q (σ a) (σ' a)) (hb : rTgrrlllrr K n p k (vs.take j) σ) : rTgrrlllrr K n p k (vs.take j) σ' := by
  unfold rTgrrlllrr at hb ⊢
  cases c : Nat.beq k 419 with
  | true =>
    rw [c] at hb
    obtain rfl := Nat.eq_of_beq_eq_true c
    exact rs_419 (p := p) h hb
  | false =>
    rw [c] at hb
    exact hb.elim
theorem rTgrrlllr_st {K : Nat → Nat} {n : Nat} {p : rP} {k : Nat} {vs : List jv} {j : Nat} {σ σ' : Nat → jcell} (h : ∀ a, a < n → ∀ q ∈ ra_dep.getD k [], q.1 = K a → aSm vs q (σ a) (σ' a)) (hb : rTgrrlllr K n p k (vs.take j) σ) : rTgrrlllr K n p k (vs.take j) σ' := by
  unfold rTgrrlllr at hb ⊢
  cases c : Nat.ble k 418 with
  | true =>
    rw [c] at hb
    exact rTgrrlllrl_st h hb
  | false =>
    rw [c] at hb
    exact rTgrrlllrr_st h hb
theorem rTgrrlll_st {K : Nat → Nat} {n : Nat} {p : rP} {k : Nat} {vs : List jv} {j : Nat} {σ σ' : Nat → jcell} (h : ∀ a, a < n → ∀ q ∈ ra_dep.getD k [], q.1 = K a → aSm vs q (σ a) (σ' a)) (hb : rTgrrlll K n p k (vs.take j) σ) : rTgrrlll K n p k (vs.take j) σ' := by
  unfold rTgrrlll at hb ⊢
  cases c : Nat.ble k 417 with
  | true =>
    rw [c] at hb
    exact rTgrrllll_st h hb
  | false =>
    rw [c] at hb
    exact rTgrrlllr_st h hb
theorem rTgrrllrll_st {K : Nat → Nat} {n : Nat} {p : rP} {k : Nat} {vs : List jv} {j : Nat} {σ σ' : Nat → jcell} (h : ∀ a, a < n → ∀ q ∈ ra_dep.getD k [], q.1 = K a → aSm vs q (σ a) (σ' a)) (hb : rTgrrllrll K n p k (vs.take j) σ) : rTgrrllrll K n p k (vs.take j) σ' := by
  unfold rTgrrllrll at hb ⊢
  cases c : Nat.beq k 420 with
  | true =>
    rw [c] at hb
    obtain rfl := Nat.eq_of_beq_eq_true c
    exact rs_420 (p := p) h hb
  | false =>
    rw [c] at hb
    exact hb.elim
theorem rTgrrllrlr_st {K : Nat → Nat} {n : Nat} {p : rP} {k : Nat} {vs : List jv} {j : Nat} {σ σ' : Nat → jcell} (h : ∀ a, a < n → ∀ q ∈ ra_dep.getD k [], q.1 = K a → aSm vs q (σ a) (σ' a)) (hb : rTgrrllrlr K n p k (vs.take j) σ) : rTgrrllrlr K n p k (vs.take j) σ' := by
  unfold rTgrrllrlr at hb ⊢
  cases c : Nat.beq k 421 with
  | true =>
    rw [c] at hb
    obtain rfl := Nat.eq_of_beq_eq_true c
    exact rs_421 (p := p) h hb
  | false =>
    rw [c] at hb
    exact hb.elim
theorem rTgrrllrl_st {K : Nat → Nat} {n : Nat} {p : rP} {k : Nat} {vs : List jv} {j : Nat} {σ σ' : Nat → jcell} (h : ∀ a, a < n → ∀ q ∈ ra_dep.getD k [], q.1 = K a → aSm vs q (σ a) (σ' a)) (hb : rTgrrllrl K n p k (vs.take j) σ) : rTgrrllrl K n p k (vs.take j) σ' := by
  unfold rTgrrllrl at hb ⊢
  cases c : Nat.ble k 420 with
  | true =>
    rw [c] at hb
    exact rTgrrllrll_st h hb
  | false =>
    rw [c] at hb
    exact rTgrrllrlr_st h hb
theorem rTgrrllrrl_st {K : Nat → Nat} {n : Nat} {p : rP} {k : Nat} {vs : List jv} {j : Nat} {σ σ' : Nat → jcell} (h : ∀ a, a < n → ∀ q ∈ ra_dep.getD k [], q.1 = K a → aSm vs q (σ a) (σ' a)) (hb : rTgrrllrrl K n p k (vs.take j) σ) : rTgrrllrrl K n p k (vs.take j) σ' := by
  unfold rTgrrllrrl at hb ⊢
  cases c : Nat.beq k 422 with
  | true =>
    rw [c] at hb
    obtain rfl := Nat.eq_of_beq_eq_true c
    exact rs_422 (p := p) h hb
  | false =>
    rw [c] at hb
    exact hb.elim
theorem rTgrrllrrr_st {K : Nat → Nat} {n : Nat} {p : rP} {k : Nat} {vs : List jv} {j : Nat} {σ σ' : Nat → jcell} (h : ∀ a, a < n → ∀ q ∈ ra_dep.getD k [], q.1 = K a → aSm vs q (σ a) (σ' a)) (hb : rTgrrllrrr K n p k (vs.take j) σ) : rTgrrllrrr K n p k (vs.take j) σ' := by
  unfold rTgrrllrrr at hb ⊢
  cases c : Nat.beq k 423 with
  | true =>
    rw [c] at hb
    obtain rfl := Nat.eq_of_beq_eq_true c
    exact rs_423 (p := p) h hb
  | false =>
    rw [c] at hb
    exact hb.elim
theorem rTgrrllrr_st {K : Nat → Nat} {n : Nat} {p : rP} {k : Nat} {vs : List jv} {j : Nat} {σ σ' : Nat → jcell} (h : ∀ a, a < n → ∀ q ∈ ra_dep.getD k [], q.1 = K a → aSm vs q (σ a) (σ' a)) (hb : rTgrrllrr K n p k (vs.take j) σ) : rTgrrllrr K n p k (vs.take j) σ' := by
  unfold rTgrrllrr at hb ⊢
  cases c : Nat.ble k 422 with
  | true =>
    rw [c] at hb
    exact rTgrrllrrl_st h hb
  | false =>
    rw [c] at hb
    exact rTgrrllrrr_st h hb
theorem rTgrrllr_st {K : Nat → Nat} {n : Nat} {p : rP} {k : Nat} {vs : List jv} {j : Nat} {σ σ' : Nat → jcell} (h : ∀ a, a < n → ∀ q ∈ ra_dep.getD k [], q.1 = K a → aSm vs q (σ a) (σ' a)) (hb : rTgrrllr K n p k (vs.take j) σ) : rTgrrllr K n p k (vs.take j) σ' := by
  unfold rTgrrllr at hb ⊢
  cases c : Nat.ble k 421 with
  | true =>
    rw [c] at hb
    exact rTgrrllrl_st h hb
  | false =>
    rw [c] at hb
    exact rTgrrllrr_st h hb
theorem rTgrrll_st {K : Nat → Nat} {n : Nat} {p : rP} {k : Nat} {vs : List jv} {j : Nat} {σ σ' : Nat → jcell} (h : ∀ a, a < n → ∀ q ∈ ra_dep.getD k [], q.1 = K a → aSm vs q (σ a) (σ' a)) (hb : rTgrrll K n p k (vs.take j) σ) : rTgrrll K n p k (vs.take j) σ' := by
  unfold rTgrrll at hb ⊢
  cases c : Nat.ble k 419 with
  | true =>
    rw [c] at hb
    exact rTgrrlll_st h hb
  | false =>
    rw [c] at hb
    exact rTgrrllr_st h hb
theorem rTgrrlrlll_st {K : Nat → Nat} {n : Nat} {p : rP} {k : Nat} {vs : List jv} {j : Nat} {σ σ' : Nat → jcell} (h : ∀ a, a < n → ∀ q ∈ ra_dep.getD k [], q.1 = K a → aSm vs q (σ a) (σ' a)) (hb : rTgrrlrlll K n p k (vs.take j) σ) : rTgrrlrlll K n p k (vs.take j) σ' := by
  unfold rTgrrlrlll at hb ⊢
  cases c : Nat.beq k 424 with
  | true =>
    rw [c] at hb
    obtain rfl := Nat.eq_of_beq_eq_true c
    exact rs_424 (p := p) h hb
  | false =>
    rw [c] at hb
    exact hb.elim
theorem rTgrrlrllr_st {K : Nat → Nat} {n : Nat} {p : rP} {k : Nat} {vs : List jv} {j : Nat} {σ σ' : Nat → jcell} (h : ∀ a, a < n → ∀ q ∈ ra_dep.getD k [], q.1 = K a → aSm vs q (σ a) (σ' a)) (hb : rTgrrlrllr K n p k (vs.take j) σ) : rTgrrlrllr K n p k (vs.take j) σ' := by
  unfold rTgrrlrllr at hb ⊢
  cases c : Nat.beq k 425 with
  | true =>
    rw [c] at hb
    obtain rfl := Nat.eq_of_beq_eq_true c
    exact rs_425 (p := p) h hb
  | false =>
    rw [c] at hb
    exact hb.elim
theorem rTgrrlrll_st {K : Nat → Nat} {n : Nat} {p : rP} {k : Nat} {vs : List jv} {j : Nat} {σ σ' : Nat → jcell} (h : ∀ a, a < n → ∀ q ∈ ra_dep.getD k [], q.1 = K a → aSm vs q (σ a) (σ' a)) (hb : rTgrrlrll K n p k (vs.take j) σ) : rTgrrlrll K n p k (vs.take j) σ' := by
  unfold rTgrrlrll at hb ⊢
  cases c : Nat.ble k 424 with
  | true =>
    rw [c] at hb
    exact rTgrrlrlll_st h hb
  | false =>
    rw [c] at hb
    exact rTgrrlrllr_st h hb
theorem rTgrrlrlrl_st {K : Nat → Nat} {n : Nat} {p : rP} {k : Nat} {vs : List jv} {j : Nat} {σ σ' : Nat → jcell} (h : ∀ a, a < n → ∀ q ∈ ra_dep.getD k [], q.1 = K a → aSm vs q (σ a) (σ' a)) (hb : rTgrrlrlrl K n p k (vs.take j) σ) : rTgrrlrlrl K n p k (vs.take j) σ' := by
  unfold rTgrrlrlrl at hb ⊢
  cases c : Nat.beq k 426 with
  | true =>
    rw [c] at hb
    obtain rfl := Nat.eq_of_beq_eq_true c
    exact rs_426 (p := p) h hb
  | false =>
    rw [c] at hb
    exact hb.elim
theorem rTgrrlrlrr_st {K : Nat → Nat} {n : Nat} {p : rP} {k : Nat} {vs : List jv} {j : Nat} {σ σ' : Nat → jcell} (h : ∀ a, a < n → ∀ q ∈ ra_dep.getD k [], q.1 = K a → aSm vs q (σ a) (σ' a)) (hb : rTgrrlrlrr K n p k (vs.take j) σ) : rTgrrlrlrr K n p k (vs.take j) σ' := by
  unfold rTgrrlrlrr at hb ⊢
  cases c : Nat.beq k 427 with
  | true =>
    rw [c] at hb
    obtain rfl := Nat.eq_of_beq_eq_true c
    exact rs_427 (p := p) h hb
  | false =>
    rw [c] at hb
    exact hb.elim
theorem rTgrrlrlr_st {K : Nat → Nat} {n : Nat} {p : rP} {k : Nat} {vs : List jv} {j : Nat} {σ σ' : Nat → jcell} (h : ∀ a, a < n → ∀ q ∈ ra_dep.getD k [], q.1 = K a → aSm vs q (σ a) (σ' a)) (hb : rTgrrlrlr K n p k (vs.take j) σ) : rTgrrlrlr K n p k (vs.take j) σ' := by
  unfold rTgrrlrlr at hb ⊢
  cases c : Nat.ble k 426 with
  | true =>
    rw [c] at hb
    exact rTgrrlrlrl_st h hb
  | false =>
    rw [c] at hb
    exact rTgrrlrlrr_st h hb
theorem rTgrrlrl_st {K : Nat → Nat} {n : Nat} {p : rP} {k : Nat} {vs : List jv} {j : Nat} {σ σ' : Nat → jcell} (h : ∀ a, a < n → ∀ q ∈ ra_dep.getD k [], q.1 = K a → aSm vs q (σ a) (σ' a)) (hb : rTgrrlrl K n p k (vs.take j) σ) : rTgrrlrl K n p k (vs.take j) σ' := by
  unfold rTgrrlrl at hb ⊢
  cases c : Nat.ble k 425 with
  | true =>
    rw [c] at hb
    exact rTgrrlrll_st h hb
  | false =>
    rw [c] at hb
    exact rTgrrlrlr_st h hb
theorem rTgrrlrrll_st {K : Nat → Nat} {n : Nat} {p : rP} {k : Nat} {vs : List jv} {j : Nat} {σ σ' : Nat → jcell} (h : ∀ a, a < n → ∀ q ∈ ra_dep.getD k [], q.1 = K a → aSm vs q (σ a) (σ' a)) (hb : rTgrrlrrll K n p k (vs.take j) σ) : rTgrrlrrll K n p k (vs.take j) σ' := by
  unfold rTgrrlrrll at hb ⊢
  cases c : Nat.beq k 428 with
  | true =>
    rw [c] at hb
    obtain rfl := Nat.eq_of_beq_eq_true c
    exact rs_428 (p := p) h hb
  | false =>
    rw [c] at hb
    exact hb.elim
theorem rTgrrlrrlr_st {K : Nat → Nat} {n : Nat} {p : rP} {k : Nat} {vs : List jv} {j : Nat} {σ σ' : Nat → jcell} (h : ∀ a, a < n → ∀ q ∈ ra_dep.getD k [], q.1 = K a → aSm vs q (σ a) (σ' a)) (hb : rTgrrlrrlr K n p k (vs.take j) σ) : rTgrrlrrlr K n p k (vs.take j) σ' := by
  unfold rTgrrlrrlr at hb ⊢
  cases c : Nat.beq k 429 with
  | true =>
    rw [c] at hb
    obtain rfl := Nat.eq_of_beq_eq_true c
    exact rs_429 (p := p) h hb
  | false =>
    rw [c] at hb
    exact hb.elim
theorem rTgrrlrrl_st {K : Nat → Nat} {n : Nat} {p : rP} {k : Nat} {vs : List jv} {j : Nat} {σ σ' : Nat → jcell} (h : ∀ a, a < n → ∀ q ∈ ra_dep.getD k [], q.1 = K a → aSm vs q (σ a) (σ' a)) (hb : rTgrrlrrl K n p k (vs.take j) σ) : rTgrrlrrl K n p k (vs.take j) σ' := by
  unfold rTgrrlrrl at hb ⊢
  cases c : Nat.ble k 428 with
  | true =>
    rw [c] at hb
    exact rTgrrlrrll_st h hb
  | false =>
    rw [c] at hb
    exact rTgrrlrrlr_st h hb
theorem rTgrrlrrrl_st {K : Nat → Nat} {n : Nat} {p : rP} {k : Nat} {vs : List jv} {j : Nat} {σ σ' : Nat → jcell} (h : ∀ a, a < n → ∀ q ∈ ra_dep.getD k [], q.1 = K a → aSm vs q (σ a) (σ' a)) (hb : rTgrrlrrrl K n p k (vs.take j) σ) : rTgrrlrrrl K n p k (vs.take j) σ' := by
  unfold rTgrrlrrrl at hb ⊢
  cases c : Nat.beq k 430 with
  | true =>
    rw [c] at hb
    obtain rfl := Nat.eq_of_beq_eq_true c
    exact rs_430 (p := p) h hb
  | false =>
    rw [c] at hb
    exact hb.elim
theorem rTgrrlrrrr_st {K : Nat → Nat} {n : Nat} {p : rP} {k : Nat} {vs : List jv} {j : Nat} {σ σ' : Nat → jcell} (h : ∀ a, a < n → ∀ q ∈ ra_dep.getD k [], q.1 = K a → aSm vs q (σ a) (σ' a)) (hb : rTgrrlrrrr K n p k (vs.take j) σ) : rTgrrlrrrr K n p k (vs.take j) σ' := by
  unfold rTgrrlrrrr at hb ⊢
  cases c : Nat.beq k 431 with
  | true =>
    rw [c] at hb
    obtain rfl := Nat.eq_of_beq_eq_true c
    exact rs_431 (p := p) h hb
  | false =>
    rw [c] at hb
    exact hb.elim
theorem rTgrrlrrr_st {K : Nat → Nat} {n : Nat} {p : rP} {k : Nat} {vs : List jv} {j : Nat} {σ σ' : Nat → jcell} (h : ∀ a, a < n → ∀ q ∈ ra_dep.getD k [], q.1 = K a → aSm vs q (σ a) (σ' a)) (hb : rTgrrlrrr K n p k (vs.take j) σ) : rTgrrlrrr K n p k (vs.take j) σ' := by
  unfold rTgrrlrrr at hb ⊢
  cases c : Nat.ble k 430 with
  | true =>
    rw [c] at hb
    exact rTgrrlrrrl_st h hb
  | false =>
    rw [c] at hb
    exact rTgrrlrrrr_st h hb
theorem rTgrrlrr_st {K : Nat → Nat} {n : Nat} {p : rP} {k : Nat} {vs : List jv} {j : Nat} {σ σ' : Nat → jcell} (h : ∀ a, a < n → ∀ q ∈ ra_dep.getD k [], q.1 = K a → aSm vs q (σ a) (σ' a)) (hb : rTgrrlrr K n p k (vs.take j) σ) : rTgrrlrr K n p k (vs.take j) σ' := by
  unfold rTgrrlrr at hb ⊢
  cases c : Nat.ble k 429 with
  | true =>
    rw [c] at hb
    exact rTgrrlrrl_st h hb
  | false =>
    rw [c] at hb
    exact rTgrrlrrr_st h hb
theorem rTgrrlr_st {K : Nat → Nat} {n : Nat} {p : rP} {k : Nat} {vs : List jv} {j : Nat} {σ σ' : Nat → jcell} (h : ∀ a, a < n → ∀ q ∈ ra_dep.getD k [], q.1 = K a → aSm vs q (σ a) (σ' a)) (hb : rTgrrlr K n p k (vs.take j) σ) : rTgrrlr K n p k (vs.take j) σ' := by
  unfold rTgrrlr at hb ⊢
  cases c : Nat.ble k 427 with
  | true =>
    rw [c] at hb
    exact rTgrrlrl_st h hb
  | false =>
    rw [c] at hb
    exact rTgrrlrr_st h hb
theorem rTgrrl_st {K : Nat → Nat} {n : Nat} {p : rP} {k : Nat} {vs : List jv} {j : Nat} {σ σ' : Nat → jcell} (h : ∀ a, a < n → ∀ q ∈ ra_dep.getD k [], q.1 = K a → aSm vs q (σ a) (σ' a)) (hb : rTgrrl K n p k (vs.take j) σ) : rTgrrl K n p k (vs.take j) σ' := by
  unfold rTgrrl at hb ⊢
  cases c : Nat.ble k 423 with
  | true =>
    rw [c] at hb
    exact rTgrrll_st h hb
  | false =>
    rw [c] at hb
    exact rTgrrlr_st h hb
theorem rTgrrrllll_st {K : Nat → Nat} {n : Nat} {p : rP} {k : Nat} {vs : List jv} {j : Nat} {σ σ' : Nat → jcell} (h : ∀ a, a < n → ∀ q ∈ ra_dep.getD k [], q.1 = K a → aSm vs q (σ a) (σ' a)) (hb : rTgrrrllll K n p k (vs.take j) σ) : rTgrrrllll K n p k (vs.take j) σ' := by
  unfold rTgrrrllll at hb ⊢
  cases c : Nat.beq k 432 with
  | true =>
    rw [c] at hb
    obtain rfl := Nat.eq_of_beq_eq_true c
    exact rs_432 (p := p) h hb
  | false =>
    rw [c] at hb
    exact hb.elim
theorem rTgrrrlllr_st {K : Nat → Nat} {n : Nat} {p : rP} {k : Nat} {vs : List jv} {j : Nat} {σ σ' : Nat → jcell} (h : ∀ a, a < n → ∀ q ∈ ra_dep.getD k [], q.1 = K a → aSm vs q (σ a) (σ' a)) (hb : rTgrrrlllr K n p k (vs.take j) σ) : rTgrrrlllr K n p k (vs.take j) σ' := by
  unfold rTgrrrlllr at hb ⊢
  cases c : Nat.beq k 433 with
  | true =>
    rw [c] at hb
    obtain rfl := Nat.eq_of_beq_eq_true c
    exact rs_433 (p := p) h hb
  | false =>
    rw [c] at hb
    exact hb.elim
theorem rTgrrrlll_st {K : Nat → Nat} {n : Nat} {p : rP} {k : Nat} {vs : List jv} {j : Nat} {σ σ' : Nat → jcell} (h : ∀ a, a < n → ∀ q ∈ ra_dep.getD k [], q.1 = K a → aSm vs q (σ a) (σ' a)) (hb : rTgrrrlll K n p k (vs.take j) σ) : rTgrrrlll K n p k (vs.take j) σ' := by
  unfold rTgrrrlll at hb ⊢
  cases c : Nat.ble k 432 with
  | true =>
    rw [c] at hb
    exact rTgrrrllll_st h hb
  | false =>
    rw [c] at hb
    exact rTgrrrlllr_st h hb
theorem rTgrrrllrl_st {K : Nat → Nat} {n : Nat} {p : rP} {k : Nat} {vs : List jv} {j : Nat} {σ σ' : Nat → jcell} (h : ∀ a, a < n → ∀ q ∈ ra_dep.getD k [], q.1 = K a → aSm vs q (σ a) (σ' a)) (hb : rTgrrrllrl K n p k (vs.take j) σ) : rTgrrrllrl K n p k (vs.take j) σ' := by
  unfold rTgrrrllrl at hb ⊢
  cases c : Nat.beq k 434 with
  | true =>
    rw [c] at hb
    obtain rfl := Nat.eq_of_beq_eq_true c
    exact rs_434 (p := p) h hb
  | false =>
    rw [c] at hb
    exact hb.elim
theorem rTgrrrllrr_st {K : Nat → Nat} {n : Nat} {p : rP} {k : Nat} {vs : List jv} {j : Nat} {σ σ' : Nat → jcell} (h : ∀ a, a < n → ∀ q ∈ ra_dep.getD k [], q.1 = K a → aSm vs q (σ a) (σ' a)) (hb : rTgrrrllrr K n p k (vs.take j) σ) : rTgrrrllrr K n p k (vs.take j) σ' := by
  unfold rTgrrrllrr at hb ⊢
  cases c : Nat.beq k 435 with
  | true =>
    rw [c] at hb
    obtain rfl := Nat.eq_of_beq_eq_true c
    exact rs_435 (p := p) h hb
  | false =>
    rw [c] at hb
    exact hb.elim
theorem rTgrrrllr_st {K : Nat → Nat} {n : Nat} {p : rP} {k : Nat} {vs : List jv} {j : Nat} {σ σ' : Nat → jcell} (h : ∀ a, a < n → ∀ q ∈ ra_dep.getD k [], q.1 = K a → aSm vs q (σ a) (σ' a)) (hb : rTgrrrllr K n p k (vs.take j) σ) : rTgrrrllr K n p k (vs.take j) σ' := by
  unfold rTgrrrllr at hb ⊢
  cases c : Nat.ble k 434 with
  | true =>
    rw [c] at hb
    exact rTgrrrllrl_st h hb
  | false =>
    rw [c] at hb
    exact rTgrrrllrr_st h hb
theorem rTgrrrll_st {K : Nat → Nat} {n : Nat} {p : rP} {k : Nat} {vs : List jv} {j : Nat} {σ σ' : Nat → jcell} (h : ∀ a, a < n → ∀ q ∈ ra_dep.getD k [], q.1 = K a → aSm vs q (σ a) (σ' a)) (hb : rTgrrrll K n p k (vs.take j) σ) : rTgrrrll K n p k (vs.take j) σ' := by
  unfold rTgrrrll at hb ⊢
  cases c : Nat.ble k 433 with
  | true =>
    rw [c] at hb
    exact rTgrrrlll_st h hb
  | false =>
    rw [c] at hb
    exact rTgrrrllr_st h hb
theorem rTgrrrlrll_st {K : Nat → Nat} {n : Nat} {p : rP} {k : Nat} {vs : List jv} {j : Nat} {σ σ' : Nat → jcell} (h : ∀ a, a < n → ∀ q ∈ ra_dep.getD k [], q.1 = K a → aSm vs q (σ a) (σ' a)) (hb : rTgrrrlrll K n p k (vs.take j) σ) : rTgrrrlrll K n p k (vs.take j) σ' := by
  unfold rTgrrrlrll at hb ⊢
  cases c : Nat.beq k 436 with
  | true =>
    rw [c] at hb
    obtain rfl := Nat.eq_of_beq_eq_true c
    exact rs_436 (p := p) h hb
  | false =>
    rw [c] at hb
    exact hb.elim
theorem rTgrrrlrlr_st {K : Nat → Nat} {n : Nat} {p : rP} {k : Nat} {vs : List jv} {j : Nat} {σ σ' : Nat → jcell} (h : ∀ a, a < n → ∀ q ∈ ra_dep.getD k [], q.1 = K a → aSm vs q (σ a) (σ' a)) (hb : rTgrrrlrlr K n p k (vs.take j) σ) : rTgrrrlrlr K n p k (vs.take j) σ' := by
  unfold rTgrrrlrlr at hb ⊢
  cases c : Nat.beq k 437 with
  | true =>
    rw [c] at hb
    obtain rfl := Nat.eq_of_beq_eq_true c
    exact rs_437 (p := p) h hb
  | false =>
    rw [c] at hb
    exact hb.elim
theorem rTgrrrlrl_st {K : Nat → Nat} {n : Nat} {p : rP} {k : Nat} {vs : List jv} {j : Nat} {σ σ' : Nat → jcell} (h : ∀ a, a < n → ∀ q ∈ ra_dep.getD k [], q.1 = K a → aSm vs q (σ a) (σ' a)) (hb : rTgrrrlrl K n p k (vs.take j) σ) : rTgrrrlrl K n p k (vs.take j) σ' := by
  unfold rTgrrrlrl at hb ⊢
  cases c : Nat.ble k 436 with
  | true =>
    rw [c] at hb
    exact rTgrrrlrll_st h hb
  | false =>
    rw [c] at hb
    exact rTgrrrlrlr_st h hb
theorem rTgrrrlrrl_st {K : Nat → Nat} {n : Nat} {p : rP} {k : Nat} {vs : List jv} {j : Nat} {σ σ' : Nat → jcell} (h : ∀ a, a < n → ∀ q ∈ ra_dep.getD k [], q.1 = K a → aSm vs q (σ a) (σ' a)) (hb : rTgrrrlrrl K n p k (vs.take j) σ) : rTgrrrlrrl K n p k (vs.take j) σ' := by
  unfold rTgrrrlrrl at hb ⊢
  cases c : Nat.beq k 438 with
  | true =>
    rw [c] at hb
    obtain rfl := Nat.eq_of_beq_eq_true c
    exact rs_438 (p := p) h hb
  | false =>
    rw [c] at hb
    exact hb.elim
theorem rTgrrrlrrr_st {K : Nat → Nat} {n : Nat} {p : rP} {k : Nat} {vs : List jv} {j : Nat} {σ σ' : Nat → jcell} (h : ∀ a, a < n → ∀ q ∈ ra_dep.getD k [], q.1 = K a → aSm vs q (σ a) (σ' a)) (hb : rTgrrrlrrr K n p k (vs.take j) σ) : rTgrrrlrrr K n p k (vs.take j) σ' := by
  unfold rTgrrrlrrr at hb ⊢
  cases c : Nat.beq k 439 with
  | true =>
    rw [c] at hb
    obtain rfl := Nat.eq_of_beq_eq_true c
    exact rs_439 (p := p) h hb
  | false =>
    rw [c] at hb
    exact hb.elim
theorem rTgrrrlrr_st {K : Nat → Nat} {n : Nat} {p : rP} {k : Nat} {vs : List jv} {j : Nat} {σ σ' : Nat → jcell} (h : ∀ a, a < n → ∀ q ∈ ra_dep.getD k [], q.1 = K a → aSm vs q (σ a) (σ' a)) (hb : rTgrrrlrr K n p k (vs.take j) σ) : rTgrrrlrr K n p k (vs.take j) σ' := by
  unfold rTgrrrlrr at hb ⊢
  cases c : Nat.ble k 438 with
  | true =>
    rw [c] at hb
    exact rTgrrrlrrl_st h hb
  | false =>
    rw [c] at hb
    exact rTgrrrlrrr_st h hb
theorem rTgrrrlr_st {K : Nat → Nat} {n : Nat} {p : rP} {k : Nat} {vs : List jv} {j : Nat} {σ σ' : Nat → jcell} (h : ∀ a, a < n → ∀ q ∈ ra_dep.getD k [], q.1 = K a → aSm vs q (σ a) (σ' a)) (hb : rTgrrrlr K n p k (vs.take j) σ) : rTgrrrlr K n p k (vs.take j) σ' := by
  unfold rTgrrrlr at hb ⊢
  cases c : Nat.ble k 437 with
  | true =>
    rw [c] at hb
    exact rTgrrrlrl_st h hb
  | false =>
    rw [c] at hb
    exact rTgrrrlrr_st h hb
theorem rTgrrrl_st {K : Nat → Nat} {n : Nat} {p : rP} {k : Nat} {vs : List jv} {j : Nat} {σ σ' : Nat → jcell} (h : ∀ a, a < n → ∀ q ∈ ra_dep.getD k [], q.1 = K a → aSm vs q (σ a) (σ' a)) (hb : rTgrrrl K n p k (vs.take j) σ) : rTgrrrl K n p k (vs.take j) σ' := by
  unfold rTgrrrl at hb ⊢
  cases c : Nat.ble k 435 with
  | true =>
    rw [c] at hb
    exact rTgrrrll_st h hb
  | false =>
    rw [c] at hb
    exact rTgrrrlr_st h hb
theorem rTgrrrrlll_st {K : Nat → Nat} {n : Nat} {p : rP} {k : Nat} {vs : List jv} {j : Nat} {σ σ' : Nat → jcell} (h : ∀ a, a < n → ∀ q ∈ ra_dep.getD k [], q.1 = K a → aSm vs q (σ a) (σ' a)) (hb : rTgrrrrlll K n p k (vs.take j) σ) : rTgrrrrlll K n p k (vs.take j) σ' := by
  unfold rTgrrrrlll at hb ⊢
  cases c : Nat.beq k 440 with
  | true =>
    rw [c] at hb
    obtain rfl := Nat.eq_of_beq_eq_true c
    exact rs_440 (p := p) h hb
  | false =>
    rw [c] at hb
    exact hb.elim
theorem rTgrrrrllr_st {K : Nat → Nat} {n : Nat} {p : rP} {k : Nat} {vs : List jv} {j : Nat} {σ σ' : Nat → jcell} (h : ∀ a, a < n → ∀ q ∈ ra_dep.getD k [], q.1 = K a → aSm vs q (σ a) (σ' a)) (hb : rTgrrrrllr K n p k (vs.take j) σ) : rTgrrrrllr K n p k (vs.take j) σ' := by
  unfold rTgrrrrllr at hb ⊢
  cases c : Nat.beq k 441 with
  | true =>
    rw [c] at hb
    obtain rfl := Nat.eq_of_beq_eq_true c
    exact rs_441 (p := p) h hb
  | false =>
    rw [c] at hb
    exact hb.elim
theorem rTgrrrrll_st {K : Nat → Nat} {n : Nat} {p : rP} {k : Nat} {vs : List jv} {j : Nat} {σ σ' : Nat → jcell} (h : ∀ a, a < n → ∀ q ∈ ra_dep.getD k [], q.1 = K a → aSm vs q (σ a) (σ' a)) (hb : rTgrrrrll K n p k (vs.take j) σ) : rTgrrrrll K n p k (vs.take j) σ' := by
  unfold rTgrrrrll at hb ⊢
  cases c : Nat.ble k 440 with
  | true =>
    rw [c] at hb
    exact rTgrrrrlll_st h hb
  | false =>
    rw [c] at hb
    exact rTgrrrrllr_st h hb
theorem rTgrrrrlrl_st {K : Nat → Nat} {n : Nat} {p : rP} {k : Nat} {vs : List jv} {j : Nat} {σ σ' : Nat → jcell} (h : ∀ a, a < n → ∀ q ∈ ra_dep.getD k [], q.1 = K a → aSm vs q (σ a) (σ' a)) (hb : rTgrrrrlrl K n p k (vs.take j) σ) : rTgrrrrlrl K n p k (vs.take j) σ' := by
  unfold rTgrrrrlrl at hb ⊢
  cases c : Nat.beq k 443 with
  | true =>
    rw [c] at hb
    obtain rfl := Nat.eq_of_beq_eq_true c
    exact rs_443 (p := p) h hb
  | false =>
    rw [c] at hb
    exact hb.elim
theorem rTgrrrrlrr_st {K : Nat → Nat} {n : Nat} {p : rP} {k : Nat} {vs : List jv} {j : Nat} {σ σ' : Nat → jcell} (h : ∀ a, a < n → ∀ q ∈ ra_dep.getD k [], q.1 = K a → aSm vs q (σ a) (σ' a)) (hb : rTgrrrrlrr K n p k (vs.take j) σ) : rTgrrrrlrr K n p k (vs.take j) σ' := by
  unfold rTgrrrrlrr at hb ⊢
  cases c : Nat.beq k 444 with
  | true =>
    rw [c] at hb
    obtain rfl := Nat.eq_of_beq_eq_true c
    exact rs_444 (p := p) h hb
  | false =>
    rw [c] at hb
    exact hb.elim
theorem rTgrrrrlr_st {K : Nat → Nat} {n : Nat} {p : rP} {k : Nat} {vs : List jv} {j : Nat} {σ σ' : Nat → jcell} (h : ∀ a, a < n → ∀ q ∈ ra_dep.getD k [], q.1 = K a → aSm vs q (σ a) (σ' a)) (hb : rTgrrrrlr K n p k (vs.take j) σ) : rTgrrrrlr K n p k (vs.take j) σ' := by
  unfold rTgrrrrlr at hb ⊢
  cases c : Nat.ble k 443 with
  | true =>
    rw [c] at hb
    exact rTgrrrrlrl_st h hb
  | false =>
    rw [c] at hb
    exact rTgrrrrlrr_st h hb
theorem rTgrrrrl_st {K : Nat → Nat} {n : Nat} {p : rP} {k : Nat} {vs : List jv} {j : Nat} {σ σ' : Nat → jcell} (h : ∀ a, a < n → ∀ q ∈ ra_dep.getD k [], q.1 = K a → aSm vs q (σ a) (σ' a)) (hb : rTgrrrrl K n p k (vs.take j) σ) : rTgrrrrl K n p k (vs.take j) σ' := by
  unfold rTgrrrrl at hb ⊢
  cases c : Nat.ble k 441 with
  | true =>
    rw [c] at hb
    exact rTgrrrrll_st h hb
  | false =>
    rw [c] at hb
    exact rTgrrrrlr_st h hb
theorem rTgrrrrrll_st {K : Nat → Nat} {n : Nat} {p : rP} {k : Nat} {vs : List jv} {j : Nat} {σ σ' : Nat → jcell} (h : ∀ a, a < n → ∀ q ∈ ra_dep.getD k [], q.1 = K a → aSm vs q (σ a) (σ' a)) (hb : rTgrrrrrll K n p k (vs.take j) σ) : rTgrrrrrll K n p k (vs.take j) σ' := by
  unfold rTgrrrrrll at hb ⊢
  cases c : Nat.beq k 445 with
  | true =>
    rw [c] at hb
    obtain rfl := Nat.eq_of_beq_eq_true c
    exact rs_445 (p := p) h hb
  | false =>
    rw [c] at hb
    exact hb.elim
theorem rTgrrrrrlr_st {K : Nat → Nat} {n : Nat} {p : rP} {k : Nat} {vs : List jv} {j : Nat} {σ σ' : Nat → jcell} (h : ∀ a, a < n → ∀ q ∈ ra_dep.getD k [], q.1 = K a → aSm vs q (σ a) (σ' a)) (hb : rTgrrrrrlr K n p k (vs.take j) σ) : rTgrrrrrlr K n p k (vs.take j) σ' := by
  unfold rTgrrrrrlr at hb ⊢
  cases c : Nat.beq k 446 with
  | true =>
    rw [c] at hb
    obtain rfl := Nat.eq_of_beq_eq_true c
    exact rs_446 (p := p) h hb
  | false =>
    rw [c] at hb
    exact hb.elim
theorem rTgrrrrrl_st {K : Nat → Nat} {n : Nat} {p : rP} {k : Nat} {vs : List jv} {j : Nat} {σ σ' : Nat → jcell} (h : ∀ a, a < n → ∀ q ∈ ra_dep.getD k [], q.1 = K a → aSm vs q (σ a) (σ' a)) (hb : rTgrrrrrl K n p k (vs.take j) σ) : rTgrrrrrl K n p k (vs.take j) σ' := by
  unfold rTgrrrrrl at hb ⊢
  cases c : Nat.ble k 445 with
  | true =>
    rw [c] at hb
    exact rTgrrrrrll_st h hb
  | false =>
    rw [c] at hb
    exact rTgrrrrrlr_st h hb
theorem rTgrrrrrrl_st {K : Nat → Nat} {n : Nat} {p : rP} {k : Nat} {vs : List jv} {j : Nat} {σ σ' : Nat → jcell} (h : ∀ a, a < n → ∀ q ∈ ra_dep.getD k [], q.1 = K a → aSm vs q (σ a) (σ' a)) (hb : rTgrrrrrrl K n p k (vs.take j) σ) : rTgrrrrrrl K n p k (vs.take j) σ' := by
  unfold rTgrrrrrrl at hb ⊢
  cases c : Nat.beq k 447 with
  | true =>
    rw [c] at hb
    obtain rfl := Nat.eq_of_beq_eq_true c
    exact rs_447 (p := p) h hb
  | false =>
    rw [c] at hb
    exact hb.elim
theorem rTgrrrrrrr_st {K : Nat → Nat} {n : Nat} {p : rP} {k : Nat} {vs : List jv} {j : Nat} {σ σ' : Nat → jcell} (h : ∀ a, a < n → ∀ q ∈ ra_dep.getD k [], q.1 = K a → aSm vs q (σ a) (σ' a)) (hb : rTgrrrrrrr K n p k (vs.take j) σ) : rTgrrrrrrr K n p k (vs.take j) σ' := by
  unfold rTgrrrrrrr at hb ⊢
  cases c : Nat.beq k 448 with
  | true =>
    rw [c] at hb
    obtain rfl := Nat.eq_of_beq_eq_true c
    exact rs_448 (p := p) h hb
  | false =>
    rw [c] at hb
    exact hb.elim
theorem rTgrrrrrr_st {K : Nat → Nat} {n : Nat} {p : rP} {k : Nat} {vs : List jv} {j : Nat} {σ σ' : Nat → jcell} (h : ∀ a, a < n → ∀ q ∈ ra_dep.getD k [], q.1 = K a → aSm vs q (σ a) (σ' a)) (hb : rTgrrrrrr K n p k (vs.take j) σ) : rTgrrrrrr K n p k (vs.take j) σ' := by
  unfold rTgrrrrrr at hb ⊢
  cases c : Nat.ble k 447 with
  | true =>
    rw [c] at hb
    exact rTgrrrrrrl_st h hb
  | false =>
    rw [c] at hb
    exact rTgrrrrrrr_st h hb
theorem rTgrrrrr_st {K : Nat → Nat} {n : Nat} {p : rP} {k : Nat} {vs : List jv} {j : Nat} {σ σ' : Nat → jcell} (h : ∀ a, a < n → ∀ q ∈ ra_dep.getD k [], q.1 = K a → aSm vs q (σ a) (σ' a)) (hb : rTgrrrrr K n p k (vs.take j) σ) : rTgrrrrr K n p k (vs.take j) σ' := by
  unfold rTgrrrrr at hb ⊢
  cases c : Nat.ble k 446 with
  | true =>
    rw [c] at hb
    exact rTgrrrrrl_st h hb
  | false =>
    rw [c] at hb
    exact rTgrrrrrr_st h hb
theorem rTgrrrr_st {K : Nat → Nat} {n : Nat} {p : rP} {k : Nat} {vs : List jv} {j : Nat} {σ σ' : Nat → jcell} (h : ∀ a, a < n → ∀ q ∈ ra_dep.getD k [], q.1 = K a → aSm vs q (σ a) (σ' a)) (hb : rTgrrrr K n p k (vs.take j) σ) : rTgrrrr K n p k (vs.take j) σ' := by
  unfold rTgrrrr at hb ⊢
  cases c : Nat.ble k 444 with
  | true =>
    rw [c] at hb
    exact rTgrrrrl_st h hb
  | false =>
    rw [c] at hb
    exact rTgrrrrr_st h hb
theorem rTgrrr_st {K : Nat → Nat} {n : Nat} {p : rP} {k : Nat} {vs : List jv} {j : Nat} {σ σ' : Nat → jcell} (h : ∀ a, a < n → ∀ q ∈ ra_dep.getD k [], q.1 = K a → aSm vs q (σ a) (σ' a)) (hb : rTgrrr K n p k (vs.take j) σ) : rTgrrr K n p k (vs.take j) σ' := by
  unfold rTgrrr at hb ⊢
  cases c : Nat.ble k 439 with
  | true =>
    rw [c] at hb
    exact rTgrrrl_st h hb
  | false =>
    rw [c] at hb
    exact rTgrrrr_st h hb
theorem rTgrr_st {K : Nat → Nat} {n : Nat} {p : rP} {k : Nat} {vs : List jv} {j : Nat} {σ σ' : Nat → jcell} (h : ∀ a, a < n → ∀ q ∈ ra_dep.getD k [], q.1 = K a → aSm vs q (σ a) (σ' a)) (hb : rTgrr K n p k (vs.take j) σ) : rTgrr K n p k (vs.take j) σ' := by
  unfold rTgrr at hb ⊢
  cases c : Nat.ble k 431 with
  | true =>
    rw [c] at hb
    exact rTgrrl_st h hb
  | false =>
    rw [c] at hb
    exact rTgrrr_st h hb
theorem rTgr_st {K : Nat → Nat} {n : Nat} {p : rP} {k : Nat} {vs : List jv} {j : Nat} {σ σ' : Nat → jcell} (h : ∀ a, a < n → ∀ q ∈ ra_dep.getD k [], q.1 = K a → aSm vs q (σ a) (σ' a)) (hb : rTgr K n p k (vs.take j) σ) : rTgr K n p k (vs.take j) σ' := by
  unfold rTgr at hb ⊢
  cases c : Nat.ble k 415 with
  | true =>
    rw [c] at hb
    exact rTgrl_st h hb
  | false =>
    rw [c] at hb
    exact rTgrr_st h hb
theorem rTg_st {K : Nat → Nat} {n : Nat} {p : rP} {k : Nat} {vs : List jv} {j : Nat} {σ σ' : Nat → jcell} (h : ∀ a, a < n → ∀ q ∈ ra_dep.getD k [], q.1 = K a → aSm vs q (σ a) (σ' a)) (hb : rTg K n p k (vs.take j) σ) : rTg K n p k (vs.take j) σ' := by
  unfold rTg at hb ⊢
  cases c : Nat.ble k 84 with
  | true =>
    rw [c] at hb
    exact rTgl_st h hb
  | false =>
    rw [c] at hb
    exact rTgr_st h hb
theorem rB_st {K : Nat → Nat} {n : Nat} {p : rP} {k : Nat} {vs : List jv} {j : Nat} {σ σ' : Nat → jcell} (h : ∀ a, a < n → ∀ q ∈ ra_dep.getD k [], q.1 = K a → aSm vs q (σ a) (σ' a)) (hb : rB K n p k (vs.take j) σ) : rB K n p k (vs.take j) σ' := by
  unfold rB at hb ⊢
  cases c1 : Nat.ble 1000 k with
  | true => rw [c1] at hb; exact hb.elim
  | false =>
    rw [c1] at hb
    cases c2 : Nat.ble 100 k with
    | false => rw [c2] at hb; exact rTg_st h hb
    | true =>
      rw [c2] at hb
      cases c3 : Nat.ble k 399 with
      | true => rw [c3] at hb; exact rTf_st h hb
      | false => rw [c3] at hb; exact rTg_st h hb
theorem rF_op {K : Nat → Nat} {n : Nat} : aOc (rF K n) ra_dep := by
  intro _ p o x y c σ h
  have ho : o < 18 := by
    by_cases c9 : o < 18
    · exact c9
    · exfalso
      unfold aOv at h
      split at h
      · split at h <;> first | omega | exact h
      · split at h <;> first | omega | exact h
      · split at h <;> first | omega | exact h
      · exact h
  refine (rF_b (r := 16 * (100 + o) + 3) (vs := [x, y, c]) (by omega) (by rw [show [x, y, c].length = 3 from rfl]; omega)).mpr ?_
  rw [show (16 * (100 + o) + 3) / 16 = 100 + o by omega]
  match o, ho, h with
  | 0, _, h => exact ro_100.mpr h
  | 1, _, h => exact ro_101.mpr h
  | 2, _, h => exact ro_102.mpr h
  | 3, _, h => exact ro_103.mpr h
  | 4, _, h => exact ro_104.mpr h
  | 5, _, h => exact ro_105.mpr h
  | 6, _, h => exact ro_106.mpr h
  | 7, _, h => exact ro_107.mpr h
  | 8, _, h => exact ro_108.mpr h
  | 9, _, h => exact ro_109.mpr h
  | 10, _, h => exact ro_110.mpr h
  | 11, _, h => exact ro_111.mpr h
  | 12, _, h => exact ro_112.mpr h
  | 13, _, h => exact ro_113.mpr h
  | 14, _, h => exact ro_114.mpr h
  | 15, _, h => exact ro_115.mpr h
  | 16, _, h => exact ro_116.mpr h
  | 17, _, h => exact ro_117.mpr h
  | z + 18, h0, _ => exact absurd h0 (by omega)
theorem rB_lo {K : Nat → Nat} {n : Nat} {p : rP} {k : Nat} {vs : List jv} {σ : Nat → jcell} (hk : k < 22) (hb : rB K n p k vs σ) : False := by
  unfold rB at hb
  rw [show Nat.ble 1000 k = false from Bool.eq_false_iff.mpr (fun h => by have := Nat.le_of_ble_eq_true h; omega), show Nat.ble 100 k = false from Bool.eq_false_iff.mpr (fun h => by have := Nat.le_of_ble_eq_true h; omega)] at hb
  have hb : rTg K n p k vs σ := hb
  unfold rTg at hb
  rw [show Nat.ble k 84 = true from Nat.ble_eq_true_of_le (by omega)] at hb
  have hb : rTgl K n p k vs σ := hb
  unfold rTgl at hb
  rw [show Nat.ble k 53 = true from Nat.ble_eq_true_of_le (by omega)] at hb
  have hb : rTgll K n p k vs σ := hb
  unfold rTgll at hb
  rw [show Nat.ble k 36 = true from Nat.ble_eq_true_of_le (by omega)] at hb
  have hb : rTglll K n p k vs σ := hb
  unfold rTglll at hb
  rw [show Nat.ble k 28 = true from Nat.ble_eq_true_of_le (by omega)] at hb
  have hb : rTgllll K n p k vs σ := hb
  unfold rTgllll at hb
  rw [show Nat.ble k 24 = true from Nat.ble_eq_true_of_le (by omega)] at hb
  have hb : rTglllll K n p k vs σ := hb
  unfold rTglllll at hb
  rw [show Nat.ble k 22 = true from Nat.ble_eq_true_of_le (by omega)] at hb
  have hb : rTgllllll K n p k vs σ := hb
  unfold rTgllllll at hb
  rw [show Nat.beq k 22 = false from Bool.eq_false_iff.mpr (fun h => by have := Nat.eq_of_beq_eq_true h; omega)] at hb
  exact hb
