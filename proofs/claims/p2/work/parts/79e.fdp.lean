/-! facts look at what dep says -/
theorem fAt_dp {K : Nat → Nat} {n : Nat} {σ σ' : Nat → jcell} {vs : List jv} {a : Nat} {men F : Nat → Int32} (h : ∀ b, b < n → ∀ q ∈ ([(26, [0, 2, 3, 4, 5, 8], none), (27, [], none), (30, [], none)] : List aDe), q.1 = K b → aSm vs q (σ b) (σ' b)) (h0 : fAt K n σ a men F) : fAt K n σ' a men F := by
  obtain ⟨h1, h2, fs, r, g, h3, h4, h5, h6, h7, h8, k2, k3, k4, k5, rw, gw, w1, w2, w3, w4, w5⟩ := h0
  have hr : σ' r = .inl (.int, 64, .inl g) := by
    rcases h r h5 (27, [], none) (List.mem_of_getElem? (i := 1) rfl) h6.symm with e | ⟨k, f1, f2, e1, -⟩ | ⟨ty, m, g1, g2, f, z, e1, -⟩
    · rw [e]; exact h7
    · rw [h7] at e1; cases e1
    · cases e1
  have hw : σ' rw = .inl (.int, 2, .inl gw) := by
    rcases h rw w2 (30, [], none) (List.mem_of_getElem? (i := 2) rfl) w3.symm with e | ⟨k, f1, f2, e1, -⟩ | ⟨ty, m, g1, g2, f, z, e1, -⟩
    · rw [e]; exact w4
    · rw [w4] at e1; cases e1
    · cases e1
  rcases h a h1 (26, [0, 2, 3, 4, 5, 8], none) (List.mem_of_getElem? (i := 0) rfl) h2.symm with e | ⟨k, f1, f2, e1, e2, e3, e4⟩ | ⟨ty, m, g1, g2, f, z, e1, -⟩
  · exact ⟨h1, h2, fs, r, g, by rw [e]; exact h3, h4, h5, h6, hr, h8, k2, k3, k4, k5, rw, gw, w1, w2, w3, hw, w5⟩
  · rw [h3] at e1
    cases e1
    exact ⟨h1, h2, f2, r, g, e2, by rw [e4 0 (by decide)]; exact h4, h5, h6, hr, h8, by rw [e4 2 (by decide)]; exact k2, by rw [e4 3 (by decide)]; exact k3, by rw [e4 4 (by decide)]; exact k4, by rw [e4 5 (by decide)]; exact k5, rw, gw, by rw [e4 8 (by decide)]; exact w1, w2, w3, hw, w5⟩
  · cases e1
theorem fLl_dp {K : Nat → Nat} {n : Nat} {σ σ' : Nat → jcell} {vs : List jv} {a : Nat} {P : Int → Prop} {Q : Int32 → Prop} {fm : aF} (h : ∀ b, b < n → ∀ q ∈ ([(9, [], some fm), (16, [], some fm), (22, [], some fm), (24, [], some fm)] : List aDe), q.1 = K b → aSm vs q (σ b) (σ' b)) (hz : ∀ (z : Int) (k : Nat), aVa vs fm z → P k → (k : Int) < z) (h0 : fLl K n σ a P Q) : fLl K n σ' a P Q := by
  obtain ⟨h1, h2, m, g, h3, h4⟩ := h0
  have hq : aSm vs (K a, [], some fm) (σ a) (σ' a) := by
    have h2' := h2
    unfold fRw at h2'
    rcases h2' with e | e | e | e
    · rw [e]; exact h a h1 (9, [], some fm) (List.mem_of_getElem? (i := 0) rfl) e.symm
    · rw [e]; exact h a h1 (16, [], some fm) (List.mem_of_getElem? (i := 1) rfl) e.symm
    · rw [e]; exact h a h1 (22, [], some fm) (List.mem_of_getElem? (i := 2) rfl) e.symm
    · rw [e]; exact h a h1 (24, [], some fm) (List.mem_of_getElem? (i := 3) rfl) e.symm
  rcases hq with e | ⟨k, f1, f2, e1, -⟩ | ⟨ty, m2, g1, g2, f, z, e1, e2, e3, e4, e5⟩
  · exact ⟨h1, h2, m, g, by rw [e]; exact h3, h4⟩
  · rw [h3] at e1; cases e1
  · obtain rfl : fm = f := Option.some.inj e1
    rw [h3] at e3
    cases e3
    exact ⟨h1, h2, _, g2, e4, fun k hk => by rw [e5 k (hz z k e2 hk)]; exact h4 k hk⟩
theorem fVa1 {vs : List jv} {i : Nat} {c z : Int} {x : Int32} (h : aVa vs ([(i, 1)], c) z) (hv : vs[i]? = some (.inl x)) : z = x.toInt + c := by
  obtain ⟨w, e, rfl⟩ := h
  unfold aEv at e
  rw [hv] at e
  have e2 : 1 * x.toInt + 0 = w := Option.some.inj (show some (1 * x.toInt + 0) = some w from e)
  dsimp only
  omega
theorem fTak {ws : List jv} {j i : Nat} {v : jv} (h : (ws.take j)[i]? = some v) : ws[i]? = some v := by
  rw [List.getElem?_take] at h
  split at h
  · exact h
  · cases h
theorem fC_lo {K : Nat → Nat} {n k : Nat} {vs : List jv} {σ : Nat → jcell} (hk : k < 99 ∨ 1000 ≤ k) (h : fC K n k vs σ) : False := by
  unfold fC at h
  by_cases c0 : 200 ≤ k
  · rw [if_pos c0] at h
    unfold fH at h
    rw [if_pos (by omega)] at h
    have := h.1
    omega
  rw [if_neg c0] at h
  by_cases c : 160 ≤ k
  · rw [if_pos c] at h
    have := h.1
    omega
  · rw [if_neg c] at h
    unfold fC0 at h
    split at h <;> first | omega | exact h
theorem fB_df2 {K : Nat → Nat} {n : Nat} {p : fP} {k : Nat} {vs : List jv} {σ : Nat → jcell} (h : k = 0 ∨ (8 ≤ k ∧ k ≤ 17) ∨ k = 20 ∨ k = 21 ∨ k = 29 ∨ (48 ≤ k ∧ k ≤ 60)) : fB K n p k vs σ = fD K n p k vs σ := by
  unfold fB
  split <;> first | rfl | omega
set_option maxHeartbeats 8000000 in
theorem fB_dp {K : Nat → Nat} {n : Nat} {p : fP} {k j : Nat} {ws : List jv} {σ σ' : Nat → jcell} (hk : k < 60) (h : ∀ a, a < n → ∀ q ∈ fb_dep.getD k [], q.1 = K a → aSm ws q (σ a) (σ' a)) (hb : fB K n p k (ws.take j) σ) : fB K n p k (ws.take j) σ' := by
  by_cases c1 : k = 1
  · subst c1
    obtain ⟨a, e, h0, hg⟩ := hb
    exact ⟨a, e, fAt_dp h h0, hg⟩
  by_cases c6 : k = 6
  · subst c6
    obtain ⟨a, x1, y1, x2, y2, x3, y3, e, h0, hg⟩ := hb
    exact ⟨a, x1, y1, x2, y2, x3, y3, e, fAt_dp h h0, hg⟩
  by_cases c28 : k = 28
  · subst c28
    obtain ⟨a, s, e, ⟨v, h0⟩, hg⟩ := hb
    exact ⟨a, s, e, ⟨v, fAt_dp h h0⟩, hg⟩
  by_cases c2 : k = 2
  · subst c2
    obtain ⟨a, lo, hi, e, h0⟩ := hb
    exact ⟨a, lo, hi, e, fLl_dp h (fun z k hz hk => by have := fVa1 (x := hi) hz (fTak (j := j) (by rw [e]; rfl)); omega) h0⟩
  by_cases c32 : k = 32
  · subst c32
    obtain ⟨a, lo, hi, e, h0⟩ := hb
    exact ⟨a, lo, hi, e, fLl_dp h (fun z k hz hk => by have := fVa1 (x := hi) hz (fTak (j := j) (by rw [e]; rfl)); omega) h0⟩
  by_cases c26 : k = 26
  · subst c26
    obtain ⟨a, lo, hi, s, e, h0⟩ := hb
    exact ⟨a, lo, hi, s, e, fLl_dp h (fun z k hz hk => by have := fVa1 (x := hi) hz (fTak (j := j) (by rw [e]; rfl)); omega) h0⟩
  by_cases c27 : k = 27
  · subst c27
    obtain ⟨a, lo, hi, s, e, h0⟩ := hb
    exact ⟨a, lo, hi, s, e, fLl_dp h (fun z k hz hk => by have := fVa1 (x := hi) hz (fTak (j := j) (by rw [e]; rfl)); omega) h0⟩
  by_cases c33 : k = 33
  · subst c33
    obtain ⟨a, lo, hi, s, e, h0⟩ := hb
    exact ⟨a, lo, hi, s, e, fLl_dp h (fun z k hz hk => by have := fVa1 (x := hi) hz (fTak (j := j) (by rw [e]; rfl)); omega) h0⟩
  by_cases c47 : k = 47
  · subst c47
    obtain ⟨a, hi, e, h0⟩ := hb
    exact ⟨a, hi, e, fLl_dp h (fun z k hz hk => by have := fVa1 (x := hi) hz (fTak (j := j) (by rw [e]; rfl)); omega) h0⟩
  by_cases cn : k = 0 ∨ (8 ≤ k ∧ k ≤ 17) ∨ k = 20 ∨ k = 21 ∨ k = 29 ∨ 48 ≤ k
  · rw [fB_df2 (by omega)] at hb ⊢
    unfold fD at hb ⊢
    rw [if_pos hk] at hb ⊢
    exact hb
  by_cases c3 : k = 3
  · subst c3
    exact hb
  by_cases c4 : k = 4
  · subst c4
    exact hb
  by_cases c5 : k = 5
  · subst c5
    exact hb
  by_cases c7 : k = 7
  · subst c7
    exact hb
  by_cases c18 : k = 18
  · subst c18
    exact hb
  by_cases c19 : k = 19
  · subst c19
    exact hb
  by_cases c22 : k = 22
  · subst c22
    exact hb
  by_cases c23 : k = 23
  · subst c23
    exact hb
  by_cases c24 : k = 24
  · subst c24
    exact hb
  by_cases c25 : k = 25
  · subst c25
    exact hb
  by_cases c30 : k = 30
  · subst c30
    exact hb
  by_cases c31 : k = 31
  · subst c31
    exact hb
  by_cases c34 : k = 34
  · subst c34
    exact hb
  by_cases c35 : k = 35
  · subst c35
    exact hb
  by_cases c36 : k = 36
  · subst c36
    exact hb
  by_cases c37 : k = 37
  · subst c37
    exact hb
  by_cases c38 : k = 38
  · subst c38
    exact hb
  by_cases c39 : k = 39
  · subst c39
    exact hb
  by_cases c40 : k = 40
  · subst c40
    exact hb
  by_cases c41 : k = 41
  · subst c41
    exact hb
  by_cases c42 : k = 42
  · subst c42
    exact hb
  by_cases c43 : k = 43
  · subst c43
    exact hb
  by_cases c44 : k = 44
  · subst c44
    exact hb
  by_cases c45 : k = 45
  · subst c45
    exact hb
  by_cases c46 : k = 46
  · subst c46
    exact hb
  omega
theorem fSm_jup {n : Nat} {K : Nat → Nat} {σ σ' : Nat → jcell} {vs ws : List jv} {a : Nat} {T : jcell → jcell} (hT : ∀ (q : aDe) (c c' : jcell), aSm vs (q.1, q.2.1, none) c c' → aSm ws q (T c) (T c')) {d : List aDe} (h : ∀ b, b < n → ∀ q ∈ d.map (fun e => ((e.1, e.2.1, none) : aDe)), q.1 = K b → aSm vs q (σ b) (σ' b)) : ∀ b, b < n → ∀ q ∈ d, q.1 = K b → aSm ws q (jup σ a (T (σ a)) b) (jup σ' a (T (σ' a)) b) := by
  intro b hb q hq hk
  have h1 := h b hb (q.1, q.2.1, none) (List.mem_map.mpr ⟨q, hq, rfl⟩) hk
  by_cases e : b = a
  · subst e
    rw [jup_s, jup_s]
    exact hT q _ _ h1
  · rw [jup_n e, jup_n e]
    rcases h1 with h1 | ⟨k, f1, f2, e1, e2, e3, e4⟩ | ⟨ty, m, g1, g2, f, z, e1, -⟩
    · exact Or.inl h1
    · exact Or.inr (Or.inl ⟨k, f1, f2, e1, e2, e3, e4⟩)
    · cases e1
theorem fSm_sto {vs ws : List jv} (i : Nat) (x : Int32) (q : aDe) (c c' : jcell) (h : aSm vs (q.1, q.2.1, none) c c') : aSm ws q (jsto c i x) (jsto c' i x) := by
  rcases h with h1 | ⟨k, f1, f2, e1, e2, e3, e4⟩ | ⟨ty, m, g1, g2, f, z, e1, -⟩
  · exact Or.inl (by rw [h1])
  · subst e1; subst e2
    exact Or.inr (Or.inl ⟨k, f1, f2, rfl, rfl, e3, e4⟩)
  · cases e1
theorem fSm_stl {vs ws : List jv} (i : Nat) (x : Int64) (q : aDe) (c c' : jcell) (h : aSm vs (q.1, q.2.1, none) c c') : aSm ws q (jstl c i x) (jstl c' i x) := by
  rcases h with h1 | ⟨k, f1, f2, e1, e2, e3, e4⟩ | ⟨ty, m, g1, g2, f, z, e1, -⟩
  · exact Or.inl (by rw [h1])
  · subst e1; subst e2
    exact Or.inr (Or.inl ⟨k, f1, f2, rfl, rfl, e3, e4⟩)
  · cases e1
theorem fSm_stf {vs ws : List jv} (i : Nat) (x : jv) (q : aDe) (c c' : jcell) (h : aSm vs (q.1, q.2.1, none) c c') : aSm ws q (jstf c i x) (jstf c' i x) := by
  rcases h with h1 | ⟨k, f1, f2, e1, e2, e3, e4⟩ | ⟨ty, m, g1, g2, f, z, e1, -⟩
  · exact Or.inl (by rw [h1])
  · subst e1; subst e2
    refine Or.inr (Or.inl ⟨k, f1.set i x, f2.set i x, rfl, rfl, by rw [List.length_set, List.length_set]; exact e3, fun f hf => ?_⟩)
    by_cases e : i = f
    · subst e
      rw [List.getElem?_set, List.getElem?_set, if_pos rfl, if_pos rfl, e3]
    · rw [List.getElem?_set_ne e, List.getElem?_set_ne e]
      exact e4 f hf
  · cases e1
theorem fF_dp {K : Nat → Nat} {n : Nat} : aDp (fF K n) K n fb_dep := by
  refine ⟨fun p r vs σ σ' hl h hf => ?_, fF_pd K n, fun h0 => absurd h0 (by decide)⟩
  have hl : r / 16 % 4096 < 60 := of_decide_eq_true hl
  unfold fF at hf ⊢
  unfold aDg at h
  by_cases c : r < 65536
  · rw [if_pos c] at hf h ⊢
    exact fB_dp (by omega) h hf
  · rw [if_neg c] at hf h ⊢
    by_cases c2 : r < 131072
    · rw [if_pos c2] at hf ⊢
      by_cases c3 : 3 ≤ r % 16
      · rw [if_pos c3] at hf ⊢
        split at hf
        next a x y l =>
          refine fB_dp (σ := jup σ a (jsto (σ a) x.toNatClampNeg y)) (by omega) ?_ hf
          rw [show (r - 65539) / 16 = r / 16 % 4096 by omega]
          exact fSm_jup (fSm_sto _ _) h
        next a x y l =>
          refine fB_dp (σ := jup σ a (jstl (σ a) x.toNatClampNeg y)) (by omega) ?_ hf
          rw [show (r - 65539) / 16 = r / 16 % 4096 by omega]
          exact fSm_jup (fSm_stl _ _) h
        next => exact hf.elim
      · rw [if_neg c3] at hf
        exact hf.elim
    · rw [if_neg c2] at hf ⊢
      by_cases c3 : 2 ≤ r % 16
      · rw [if_pos c3] at hf ⊢
        split at hf
        next a y l =>
          by_cases c4 : (r % 131072 - 2) / 16 < 60
          · refine fB_dp (σ := jup σ a (jstf (σ a) (r / 131072 - 1) y)) c4 ?_ hf
            rw [show (r % 131072 - 2) / 16 = r / 16 % 4096 by omega]
            exact fSm_jup (fSm_stf _ _) h
          · exact (fB_hi (show 1000 ≤ (r % 131072 - 2) / 16 by omega) hf).elim
        next => exact hf.elim
      · rw [if_neg c3] at hf
        exact hf.elim
theorem fDeps : ∀ k, k < 22 → fb_dep.getD k [] = fa_dep.getD k []
  | 0, _ => rfl
  | 1, _ => rfl
  | 2, _ => rfl
  | 3, _ => rfl
  | 4, _ => rfl
  | 5, _ => rfl
  | 6, _ => rfl
  | 7, _ => rfl
  | 8, _ => rfl
  | 9, _ => rfl
  | 10, _ => rfl
  | 11, _ => rfl
  | 12, _ => rfl
  | 13, _ => rfl
  | 14, _ => rfl
  | 15, _ => rfl
  | 16, _ => rfl
  | 17, _ => rfl
  | 18, _ => rfl
  | 19, _ => rfl
  | 20, _ => rfl
  | 21, _ => rfl
  | k + 22, h => absurd h (by omega)
theorem fF_dpa {K : Nat → Nat} {n : Nat} : aDp (fF K n) K n fa_dep := by
  refine ⟨fun p r vs σ σ' hl h hf => fF_dp.1 p r vs σ σ' ?_ ?_ hf, fF_pd K n, fun h0 => absurd h0 (by decide)⟩
  · have h1 : r / 16 % 4096 < 22 := of_decide_eq_true hl
    exact decide_eq_true (show r / 16 % 4096 < 60 by omega)
  · have h1 : r / 16 % 4096 < 22 := of_decide_eq_true hl
    have e : aDg fb_dep r = aDg fa_dep r := by
      unfold aDg
      split
      · exact fDeps _ (by omega)
      · rw [fDeps _ h1]
    rw [e]
    exact h

