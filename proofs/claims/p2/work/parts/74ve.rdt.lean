/-! what the reference's facts look at -/
theorem rTak {ws : List jv} {j i : Nat} {v : jv} (h : (ws.take j)[i]? = some v) : ws[i]? = some v := by
  rw [List.getElem?_take] at h
  split at h
  · exact h
  · cases h
theorem rVa0 {vs : List jv} {c z : Int} (h : aVa vs ([], c) z) : z = c := by
  obtain ⟨w, e, rfl⟩ := h
  have e2 : 0 = w := Option.some.inj (show some 0 = some w from e)
  dsimp only
  omega
theorem rVa1 {vs : List jv} {i : Nat} {b c z : Int} {x : Int32} (h : aVa vs ([(i, b)], c) z) (hv : vs[i]? = some (.inl x)) : z = b * x.toInt + c := by
  obtain ⟨w, e, rfl⟩ := h
  unfold aEv at e
  rw [hv] at e
  have e2 : b * x.toInt + 0 = w := Option.some.inj (show some (b * x.toInt + 0) = some w from e)
  dsimp only
  omega
theorem rVa2 {vs : List jv} {i i' : Nat} {b b' c z : Int} {x x' : Int32} (h : aVa vs ([(i, b), (i', b')], c) z) (hv : vs[i]? = some (.inl x)) (hv' : vs[i']? = some (.inl x')) : z = b * x.toInt + b' * x'.toInt + c := by
  obtain ⟨w, e, rfl⟩ := h
  unfold aEv aEv at e
  rw [hv, hv'] at e
  have e2 : b * x.toInt + (b' * x'.toInt + 0) = w := Option.some.inj (show some (b * x.toInt + (b' * x'.toInt + 0)) = some w from e)
  dsimp only
  omega
theorem rRw_st {K : Nat → Nat} {n : Nat} {σ σ' : Nat → jcell} {vs : List jv} {d : List aDe} (h : ∀ a, a < n → ∀ q ∈ d, q.1 = K a → aSm vs q (σ a) (σ' a)) {a kr len : Nat} {g : Nat → Int32} (hr : (kr, [], none) ∈ d) (ho : rRw K n σ a kr len g) : rRw K n σ' a kr len g := by
  obtain ⟨h1, h2, e⟩ := ho
  refine ⟨h1, h2, ?_⟩
  rcases h a h1 _ hr h2.symm with e1 | ⟨c', f1, f2, e3, e4, -, e5⟩ | ⟨ty, m, g1, g2, f', z', e0, -⟩
  · rw [e1]; exact e
  · rw [e3] at e
    cases e
  · cases e0
theorem rRw_sb {K : Nat → Nat} {n : Nat} {σ σ' : Nat → jcell} {vs : List jv} {d : List aDe} (h : ∀ a, a < n → ∀ q ∈ d, q.1 = K a → aSm vs q (σ a) (σ' a)) {a kr len : Nat} {fo : aF} {b : Int} {g : Nat → Int32} (hr : (kr, [], some fo) ∈ d) (hb : ∀ x, aVa vs fo x → x = b) (ho : rRw K n σ a kr len g) : ∃ g', rRw K n σ' a kr len g' ∧ ∀ i : Nat, (i : Int) < b → g' i = g i := by
  obtain ⟨h1, h2, e⟩ := ho
  rcases h a h1 _ hr h2.symm with e1 | ⟨c', f1, f2, e3, e4, -, e5⟩ | ⟨ty, m, g1, g2, f', z', e0, e1, e2, e3, e4⟩
  · exact ⟨g, ⟨h1, h2, by rw [e1]; exact e⟩, fun _ _ => rfl⟩
  · rw [e3] at e
    cases e
  · cases e0
    rw [e2] at e
    cases e
    exact ⟨g2, ⟨h1, h2, e3⟩, fun i hi => e4 i (by rw [hb _ e1]; exact hi)⟩
theorem rTx_st {K : Nat → Nat} {n : Nat} {σ σ' : Nat → jcell} {vs : List jv} {d : List aDe} (h : ∀ a, a < n → ∀ q ∈ d, q.1 = K a → aSm vs q (σ a) (σ' a)) {a : Nat} {F : List Nat} {z : Option aF} {g : Nat → Int32} (hq : (88, F, z) ∈ d) (hf : 1 ∈ F) (hr : (89, [], none) ∈ d) (ho : rTx K n σ a g) : rTx K n σ' a g := by
  obtain ⟨r, o, h1, h2, e⟩ := ho
  refine ⟨r, rOb_st h hq hf o, h1, h2, ?_⟩
  rcases h r h1 _ hr h2.symm with e1 | ⟨c', f1, f2, e3, e4, -, e5⟩ | ⟨ty, m, g1, g2, f', z', e0, -⟩
  · rw [e1]; exact e
  · rw [e3] at e
    cases e
  · cases e0
