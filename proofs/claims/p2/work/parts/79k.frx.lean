section
/-! rules of positions that are read: their proofs -/
theorem f130b {K : Nat → Nat} {n : Nat} {p : fP} {σ : Nat → jcell} {b : Nat} {i : Int32} (h : fB K n p 130 [fR b, fI i] σ) : ∃ g : Nat → Int32, fMe K n σ b g ∧ (∀ j : Nat, (j : Int) < i.toInt → fNp (g j) ∧ fNp (g (56 + j))) ∧ fNp (g i.toInt.toNat) := by
  obtain ⟨b', i', g, w, h⟩ := h
  rcases h with ⟨e, h1, h2⟩ | ⟨x, e, -⟩ | ⟨v, w', e, -⟩
  · cases e; exact ⟨g, w, h1, h2⟩
  · cases e
  · cases e
theorem f130c {K : Nat → Nat} {n : Nat} {p : fP} {σ : Nat → jcell} {b : Nat} {i x : Int32} (h : fB K n p 130 [fR b, fI i, fI x] σ) : ∃ g : Nat → Int32, fMe K n σ b g ∧ ∀ j : Nat, (j : Int) < i.toInt + 1 → fNp (g j) ∧ fNp (g (56 + j)) := by
  obtain ⟨b', i', g, w, h⟩ := h
  rcases h with ⟨e, -⟩ | ⟨x, e, h1⟩ | ⟨v, w', e, -⟩
  · cases e
  · cases e; exact ⟨g, w, h1⟩
  · cases e
theorem f130d {K : Nat → Nat} {n : Nat} {p : fP} {σ : Nat → jcell} {b : Nat} {i x y : Int32} (h : fB K n p 130 [fR b, fI i, fI x, fI y] σ) : ∃ g : Nat → Int32, fMe K n σ b g ∧ g (56 + i.toInt.toNat) = x := by
  obtain ⟨b', i', g, w, h⟩ := h
  rcases h with ⟨e, -⟩ | ⟨x, e, -⟩ | ⟨v, w', e, h1⟩
  · cases e
  · cases e
  · cases e; exact ⟨g, w, h1⟩
theorem bSn_0 {W : Nat → Int32} {c : Nat} {g : Nat → Int32} : ∀ (k : Nat), (∀ j, j < k → (g j).toInt = 0) → bSn W c g k = 0
  | 0, _ => rfl
  | k + 1, h => by
    show bSn W c g k + bW W c (g k) k = 0
    rw [bSn_0 k (fun j hj => h j (by omega)), show g k = 0 from Int32.toInt_inj.mp (by rw [h k (by omega)]; rfl)]
    rfl
theorem fFst_0 : ∀ j, j < 64 → fFst 1 j = if j = 0 then 4 else fFst 0 j := by decide +kernel
theorem fFst_1 : ∀ j, j < 64 → fFst 2 j = if j = 8 then 1 else fFst 1 j := by decide +kernel
theorem fFst_2 : ∀ j, j < 64 → fFst 3 j = if j = 48 then 9 else fFst 2 j := by decide +kernel
theorem fFst_3 : ∀ j, j < 64 → fFst 4 j = if j = 56 then 12 else fFst 3 j := by decide +kernel
theorem fFst_4 : ∀ j, j < 64 → fFst 5 j = if j = 1 then 2 else fFst 4 j := by decide +kernel
theorem fFst_5 : ∀ j, j < 64 → fFst 6 j = if j = 9 then 1 else fFst 5 j := by decide +kernel
theorem fFst_6 : ∀ j, j < 64 → fFst 7 j = if j = 49 then 9 else fFst 6 j := by decide +kernel
theorem fFst_7 : ∀ j, j < 64 → fFst 8 j = if j = 57 then 10 else fFst 7 j := by decide +kernel
theorem fFst_8 : ∀ j, j < 64 → fFst 9 j = if j = 2 then 3 else fFst 8 j := by decide +kernel
theorem fFst_9 : ∀ j, j < 64 → fFst 10 j = if j = 10 then 1 else fFst 9 j := by decide +kernel
theorem fFst_10 : ∀ j, j < 64 → fFst 11 j = if j = 50 then 9 else fFst 10 j := by decide +kernel
theorem fFst_11 : ∀ j, j < 64 → fFst 12 j = if j = 58 then 11 else fFst 11 j := by decide +kernel
theorem fFst_12 : ∀ j, j < 64 → fFst 13 j = if j = 3 then 5 else fFst 12 j := by decide +kernel
theorem fFst_13 : ∀ j, j < 64 → fFst 14 j = if j = 11 then 1 else fFst 13 j := by decide +kernel
theorem fFst_14 : ∀ j, j < 64 → fFst 15 j = if j = 51 then 9 else fFst 14 j := by decide +kernel
theorem fFst_15 : ∀ j, j < 64 → fFst 16 j = if j = 59 then 13 else fFst 15 j := by decide +kernel
theorem fFst_16 : ∀ j, j < 64 → fFst 17 j = if j = 4 then 6 else fFst 16 j := by decide +kernel
theorem fFst_17 : ∀ j, j < 64 → fFst 18 j = if j = 12 then 1 else fFst 17 j := by decide +kernel
theorem fFst_18 : ∀ j, j < 64 → fFst 19 j = if j = 52 then 9 else fFst 18 j := by decide +kernel
theorem fFst_19 : ∀ j, j < 64 → fFst 20 j = if j = 60 then 14 else fFst 19 j := by decide +kernel
theorem fFst_20 : ∀ j, j < 64 → fFst 21 j = if j = 5 then 3 else fFst 20 j := by decide +kernel
theorem fFst_21 : ∀ j, j < 64 → fFst 22 j = if j = 13 then 1 else fFst 21 j := by decide +kernel
theorem fFst_22 : ∀ j, j < 64 → fFst 23 j = if j = 53 then 9 else fFst 22 j := by decide +kernel
theorem fFst_23 : ∀ j, j < 64 → fFst 24 j = if j = 61 then 11 else fFst 23 j := by decide +kernel
theorem fFst_24 : ∀ j, j < 64 → fFst 25 j = if j = 6 then 2 else fFst 24 j := by decide +kernel
theorem fFst_25 : ∀ j, j < 64 → fFst 26 j = if j = 14 then 1 else fFst 25 j := by decide +kernel
theorem fFst_26 : ∀ j, j < 64 → fFst 27 j = if j = 54 then 9 else fFst 26 j := by decide +kernel
theorem fFst_27 : ∀ j, j < 64 → fFst 28 j = if j = 62 then 10 else fFst 27 j := by decide +kernel
theorem fFst_28 : ∀ j, j < 64 → fFst 29 j = if j = 7 then 4 else fFst 28 j := by decide +kernel
theorem fFst_29 : ∀ j, j < 64 → fFst 30 j = if j = 15 then 1 else fFst 29 j := by decide +kernel
theorem fFst_30 : ∀ j, j < 64 → fFst 31 j = if j = 55 then 9 else fFst 30 j := by decide +kernel
theorem fFst_31 : ∀ j, j < 64 → fFst 32 j = if j = 63 then 12 else fFst 31 j := by decide +kernel
theorem fFst_ok : ∀ j, j < 64 → 0 ≤ fFst 32 j ∧ fFst 32 j ≤ 14 ∧ ¬ fFst 32 j = 7 ∧ ¬ fFst 32 j = 8 ∧ ((¬ fFst 32 j = 1 ∧ ¬ fFst 32 j = 9) ∨ (8 ≤ j ∧ j ≤ 55)) := by decide +kernel
set_option maxRecDepth 8192 in
theorem rw_ruFL0 {K : Nat → Nat} {n : Nat} : aGho (fF K n) fa_T K n (fJX K n) ag_ruFL0 := by
  refine aGho_of ⟨rfl, rfl⟩ ?_
  intro p σ ρ hH hX hA hM
  have hG := aAG_of hA.1 (fun i e v he hv => (hA.2 i e v he hv).1)
  clear hA
  obtain ⟨v0, v1, rfl, g0, g1⟩ := fA_2 hG
  clear hG
  obtain ⟨x0, rfl, b0, d0⟩ := fG_ref (by decide) g0
  obtain ⟨x1, rfl, b1, d1⟩ := aG_int g1
  dsimp only at b1 d1
  obtain ⟨m1, m2, m3, m4⟩ := hM
  clear m1 m2 m3 m4
  obtain ⟨g, eg⟩ := fRow hH b0 d0 (q := (.int, 64, (0, 15), [])) rfl (by intro h; cases h)
  have q0 : fB K n (p) 135 [fR x0, fI x1] σ := by
    exact ⟨_, _, g, rfl, b0, d0, eg, fun j hj => by omega⟩
  exact ⟨p, fun _ => rfl, ⟨(fun q h => by cases h), fun q h => (by cases h), (fun f h => by cases h), (aAllc ⟨_, rfl, (fF_b (r := 2162) (by decide) rfl).mpr q0⟩ (fun f h => by cases h))⟩, [], List.mem_cons_self, fun f h => (by cases h)⟩
set_option maxRecDepth 8192 in
theorem rw_ruFLp {K : Nat → Nat} {n : Nat} : aGho (fF K n) fa_T K n (fJX K n) ag_ruFLp := by
  refine aGho_of ⟨rfl, rfl⟩ ?_
  intro p σ ρ hH hX hA hM
  have hG := aAG_of hA.1 (fun i e v he hv => (hA.2 i e v he hv).1)
  clear hA
  obtain ⟨v0, v1, v2, rfl, g0, g1, g2⟩ := fA_3 hG
  clear hG
  obtain ⟨x0, rfl, b0, d0⟩ := fG_ref (by decide) g0
  obtain ⟨x1, rfl, b1, d1⟩ := aG_int g1
  dsimp only at b1 d1
  obtain ⟨x2, rfl, b2, d2⟩ := aG_int g2
  dsimp only at b2 d2
  obtain ⟨m1, m2, m3, m4⟩ := hM
  have f0 : fB K n p 135 [fR x0, fI x1] σ := by
    obtain ⟨w, e6, e7⟩ := m4 (2162, [0, 1]) (List.mem_of_getElem? (i := 0) rfl)
    obtain rfl : [fR x0, fI x1] = w := Option.some.inj (show some [fR x0, fI x1] = some w from e6)
    exact (fF_b (r := 2162) (by decide) rfl).mp e7
  clear m1 m2 m3 m4
  obtain ⟨r, i, g, e, l1, l2, l3, l4⟩ := f0
  cases e
  have q0 : fB K n (p) 136 [fR x0, fI x1] (jup σ x0 (jsto (σ x0) x1.toNatClampNeg x2)) := by
    refine ⟨_, _, upd g x1.toInt.toNat x2, rfl, l1, l2, by rw [jup_s, l3]; rfl, fun j hj => ?_⟩
    unfold upd
    split
    · omega
    · exact l4 j (by omega)
  exact ⟨p, fun _ => rfl, ⟨(fun q h => by cases h), fun q h => (by cases h), (fun f h => by cases h), (aAllc ⟨_, rfl, fF_p (r := 2178) (by decide) (by decide) rfl q0⟩ (fun f h => by cases h))⟩, [], List.mem_cons_self, fun f h => (by cases h)⟩
set_option maxRecDepth 8192 in
theorem rw_ruFLn {K : Nat → Nat} {n : Nat} : aGho (fF K n) fa_T K n (fJX K n) ag_ruFLn := by
  refine aGho_of ⟨rfl, rfl⟩ ?_
  intro p σ ρ hH hX hA hM
  have hG := aAG_of hA.1 (fun i e v he hv => (hA.2 i e v he hv).1)
  clear hA
  obtain ⟨v0, v1, v2, rfl, g0, g1, g2⟩ := fA_3 hG
  clear hG
  obtain ⟨x0, rfl, b0, d0⟩ := fG_ref (by decide) g0
  obtain ⟨x1, rfl, b1, d1⟩ := aG_int g1
  dsimp only at b1 d1
  obtain ⟨x2, rfl, b2, d2⟩ := aG_int g2
  dsimp only at b2 d2
  obtain ⟨m1, m2, m3, m4⟩ := hM
  have l0 : 0 ≤ (1 * x2.toInt + (-1 * x1.toInt + 0)) + -1 := by
    obtain ⟨z, e6, e7⟩ := m3 ([(2, 1), (1, -1)], -1) (List.mem_of_getElem? (i := 0) rfl)
    obtain rfl : (1 * x2.toInt + (-1 * x1.toInt + 0)) = z := Option.some.inj (show some (1 * x2.toInt + (-1 * x1.toInt + 0)) = some z from e6)
    exact e7
  have l1 : 0 ≤ (-1 * x2.toInt + (1 * x1.toInt + 0)) + 1 := by
    obtain ⟨z, e6, e7⟩ := m3 ([(2, -1), (1, 1)], 1) (List.mem_of_getElem? (i := 1) rfl)
    obtain rfl : (-1 * x2.toInt + (1 * x1.toInt + 0)) = z := Option.some.inj (show some (-1 * x2.toInt + (1 * x1.toInt + 0)) = some z from e6)
    exact e7
  have f0 : fB K n p 136 [fR x0, fI x1] σ := by
    obtain ⟨w, e6, e7⟩ := m4 (2178, [0, 1]) (List.mem_of_getElem? (i := 0) rfl)
    obtain rfl : [fR x0, fI x1] = w := Option.some.inj (show some [fR x0, fI x1] = some w from e6)
    exact (fF_b (r := 2178) (by decide) rfl).mp e7
  clear m1 m2 m3 m4
  obtain ⟨r, i, g, e, l1, l2, l3, l4⟩ := f0
  cases e
  have q0 : fB K n (p) 135 [fR x0, fI x2] σ := by
    exact ⟨_, _, g, rfl, l1, l2, l3, fun j hj => l4 j (by omega)⟩
  exact ⟨p, fun _ => rfl, ⟨(fun q h => by cases h), fun q h => (by cases h), (fun f h => by cases h), (aAllc ⟨_, rfl, (fF_b (r := 2162) (by decide) rfl).mpr q0⟩ (fun f h => by cases h))⟩, [], List.mem_cons_self, fun f h => (by cases h)⟩
set_option maxRecDepth 8192 in
theorem rw_ruFLz {K : Nat → Nat} {n : Nat} : aGho (fF K n) fa_T K n (fJX K n) ag_ruFLz := by
  refine aGho_of ⟨rfl, rfl⟩ ?_
  intro p σ ρ hH hX hA hM
  have hG := aAG_of hA.1 (fun i e v he hv => (hA.2 i e v he hv).1)
  clear hA
  obtain ⟨v0, v1, rfl, g0, g1⟩ := fA_2 hG
  clear hG
  obtain ⟨x0, rfl, b0, d0⟩ := fG_ref (by decide) g0
  obtain ⟨x1, rfl, b1, d1⟩ := aG_int g1
  dsimp only at b1 d1
  obtain ⟨m1, m2, m3, m4⟩ := hM
  have l0 : 0 ≤ (1 * x1.toInt + 0) + -64 := by
    obtain ⟨z, e6, e7⟩ := m3 ([(1, 1)], -64) (List.mem_of_getElem? (i := 0) rfl)
    obtain rfl : (1 * x1.toInt + 0) = z := Option.some.inj (show some (1 * x1.toInt + 0) = some z from e6)
    exact e7
  have f0 : fB K n p 135 [fR x0, fI x1] σ := by
    obtain ⟨w, e6, e7⟩ := m4 (2162, [0, 1]) (List.mem_of_getElem? (i := 0) rfl)
    obtain rfl : [fR x0, fI x1] = w := Option.some.inj (show some [fR x0, fI x1] = some w from e6)
    exact (fF_b (r := 2162) (by decide) rfl).mp e7
  clear m1 m2 m3 m4
  obtain ⟨r, i, g, e, l1, l2, l3, l4⟩ := f0
  cases e
  have q0 : fB K n (p) 145 [fR x0] σ := by
    exact ⟨_, g, rfl, l1, l2, l3, fun j hj => l4 j (by omega)⟩
  exact ⟨p, fun _ => rfl, ⟨(fun q h => by cases h), fun q h => (by cases h), (fun f h => by cases h), (aAllc ⟨_, rfl, (fF_b (r := 2321) (by decide) rfl).mpr q0⟩ (fun f h => by cases h))⟩, [], List.mem_cons_self, fun f h => (by cases h)⟩
set_option maxRecDepth 8192 in
theorem rw_ruMN0 {K : Nat → Nat} {n : Nat} : aGho (fF K n) fa_T K n (fJX K n) ag_ruMN0 := by
  refine aGho_of ⟨rfl, rfl⟩ ?_
  intro p σ ρ hH hX hA hM
  have hG := aAG_of hA.1 (fun i e v he hv => (hA.2 i e v he hv).1)
  clear hA
  obtain ⟨v0, v1, rfl, g0, g1⟩ := fA_2 hG
  clear hG
  obtain ⟨x0, rfl, b0, d0⟩ := fG_ref (by decide) g0
  obtain ⟨x1, rfl, b1, d1⟩ := fG_ref (by decide) g1
  obtain ⟨m1, m2, m3, m4⟩ := hM
  obtain ⟨a0, c0, fs0, w0, e1, s0, t0, e4⟩ := m1 (0, 0, 1) (List.mem_of_getElem? (i := 0) rfl)
  obtain rfl : x0 = a0 := Sum.inl.inj (Option.some.inj (Sum.inr.inj (Sum.inr.inj (Option.some.inj (show some (fR x0) = some _ from e1)))))
  obtain rfl : fR x1 = w0 := Option.some.inj (show some (fR x1) = some w0 from e4)
  clear e1 e4
  have f0 : fB K n p 145 [fR x1] σ := by
    obtain ⟨w, e6, e7⟩ := m4 (2321, [1]) (List.mem_of_getElem? (i := 0) rfl)
    obtain rfl : [fR x1] = w := Option.some.inj (show some [fR x1] = some w from e6)
    exact (fF_b (r := 2321) (by decide) rfl).mp e7
  clear m1 m2 m3 m4
  obtain ⟨r, g, e, l1, l2, l3, l4⟩ := f0
  cases e
  have q0 : fB K n (p) 137 [fR x0] σ := by
    exact ⟨_, g, rfl, ⟨_, ⟨b0, d0, _, _, s0, t0⟩, l1, l2, l3⟩, fun j hj => by have := l4 j hj; unfold fOm; omega⟩
  exact ⟨p, fun _ => rfl, ⟨(fun q h => by cases h), fun q h => (by cases h), (fun f h => by cases h), (aAllc ⟨_, rfl, (fF_b (r := 2193) (by decide) rfl).mpr q0⟩ (fun f h => by cases h))⟩, [], List.mem_cons_self, fun f h => (by cases h)⟩
set_option maxRecDepth 8192 in
theorem rw_ruZW0 {K : Nat → Nat} {n : Nat} : aGho (fF K n) fa_T K n (fJX K n) ag_ruZW0 := by
  refine aGho_of ⟨rfl, rfl⟩ ?_
  intro p σ ρ hH hX hA hM
  have hG := aAG_of hA.1 (fun i e v he hv => (hA.2 i e v he hv).1)
  clear hA
  obtain ⟨v0, v1, v2, rfl, g0, g1, g2⟩ := fA_3 hG
  clear hG
  obtain ⟨x0, rfl, b0, d0⟩ := fG_ref (by decide) g0
  obtain ⟨x1, rfl, b1, d1⟩ := aG_int g1
  dsimp only at b1 d1
  obtain ⟨x2, rfl, b2, d2⟩ := aG_int g2
  dsimp only at b2 d2
  obtain ⟨m1, m2, m3, m4⟩ := hM
  clear m1 m2 m3 m4
  obtain ⟨g, eg⟩ := fRow hH b0 d0 (q := (.int, 2, (-2147483648, 2147483647), [])) rfl (by intro h; cases h)
  have q0 : fB K n (p) 158 [fR x0] (jup σ x0 (jsto (σ x0) x1.toNatClampNeg x2)) := by
    refine ⟨_, upd g x1.toNatClampNeg x2, rfl, b0, d0, by rw [jup_s, eg]; rfl, ?_⟩
    rw [show x1.toNatClampNeg = 0 from by rw [fNc]; omega, upd_s]
    exact Int32.toInt_inj.mp (by rw [show (0 : Int32).toInt = 0 from rfl]; omega)
  exact ⟨p, fun _ => rfl, ⟨(fun q h => by cases h), fun q h => (by cases h), (fun f h => by cases h), (aAllc ⟨_, rfl, fF_p (r := 2529) (by decide) (by decide) rfl q0⟩ (fun f h => by cases h))⟩, [], List.mem_cons_self, fun f h => (by cases h)⟩
set_option maxRecDepth 8192 in
theorem rw_ruZW1 {K : Nat → Nat} {n : Nat} : aGho (fF K n) fa_T K n (fJX K n) ag_ruZW1 := by
  refine aGho_of ⟨rfl, rfl⟩ ?_
  intro p σ ρ hH hX hA hM
  have hG := aAG_of hA.1 (fun i e v he hv => (hA.2 i e v he hv).1)
  clear hA
  obtain ⟨v0, v1, v2, rfl, g0, g1, g2⟩ := fA_3 hG
  clear hG
  obtain ⟨x0, rfl, b0, d0⟩ := fG_ref (by decide) g0
  obtain ⟨x1, rfl, b1, d1⟩ := aG_int g1
  dsimp only at b1 d1
  obtain ⟨x2, rfl, b2, d2⟩ := aG_int g2
  dsimp only at b2 d2
  obtain ⟨m1, m2, m3, m4⟩ := hM
  have f0 : fB K n p 158 [fR x0] σ := by
    obtain ⟨w, e6, e7⟩ := m4 (2529, [0]) (List.mem_of_getElem? (i := 0) rfl)
    obtain rfl : [fR x0] = w := Option.some.inj (show some [fR x0] = some w from e6)
    exact (fF_b (r := 2529) (by decide) rfl).mp e7
  clear m1 m2 m3 m4
  obtain ⟨r, g, e, l1, l2, l3, l4⟩ := f0
  cases e
  have q0 : fB K n (p) 159 [fR x0] (jup σ x0 (jsto (σ x0) x1.toNatClampNeg x2)) := by
    refine ⟨_, upd g x1.toNatClampNeg x2, rfl, l1, l2, by rw [jup_s, l3]; rfl, ?_, ?_⟩
    · rw [show x1.toNatClampNeg = 1 from by rw [fNc]; omega, upd_o (by decide)]
      exact l4
    · rw [show x1.toNatClampNeg = 1 from by rw [fNc]; omega, upd_s]
      exact Int32.toInt_inj.mp (by rw [show (0 : Int32).toInt = 0 from rfl]; omega)
  exact ⟨p, fun _ => rfl, ⟨(fun q h => by cases h), fun q h => (by cases h), (fun f h => by cases h), (aAllc ⟨_, rfl, fF_p (r := 2545) (by decide) (by decide) rfl q0⟩ (fun f h => by cases h))⟩, [], List.mem_cons_self, fun f h => (by cases h)⟩
set_option maxRecDepth 8192 in
theorem rw_ruWS0 {K : Nat → Nat} {n : Nat} : aGho (fF K n) fa_T K n (fJX K n) ag_ruWS0 := by
  refine aGho_of ⟨rfl, rfl⟩ ?_
  intro p σ ρ hH hX hA hM
  have hG := aAG_of hA.1 (fun i e v he hv => (hA.2 i e v he hv).1)
  clear hA
  obtain ⟨v0, v1, v2, rfl, g0, g1, g2⟩ := fA_3 hG
  clear hG
  obtain ⟨x0, rfl, b0, d0⟩ := fG_ref (by decide) g0
  obtain ⟨x1, rfl, b1, d1⟩ := fG_ref (by decide) g1
  obtain ⟨x2, rfl, b2, d2⟩ := fG_ref (by decide) g2
  obtain ⟨m1, m2, m3, m4⟩ := hM
  obtain ⟨a0, c0, fs0, w0, e1, s0, t0, e4⟩ := m1 (0, 0, 1) (List.mem_of_getElem? (i := 0) rfl)
  obtain rfl : x0 = a0 := Sum.inl.inj (Option.some.inj (Sum.inr.inj (Sum.inr.inj (Option.some.inj (show some (fR x0) = some _ from e1)))))
  obtain rfl : fR x1 = w0 := Option.some.inj (show some (fR x1) = some w0 from e4)
  clear e1 e4
  obtain ⟨a1, c1, fs1, w1, e1, s1, t1, e4⟩ := m1 (0, 8, 2) (List.mem_of_getElem? (i := 1) rfl)
  obtain rfl : x0 = a1 := Sum.inl.inj (Option.some.inj (Sum.inr.inj (Sum.inr.inj (Option.some.inj (show some (fR x0) = some _ from e1)))))
  obtain rfl : fR x2 = w1 := Option.some.inj (show some (fR x2) = some w1 from e4)
  clear e1 e4
  have f0 : fB K n p 145 [fR x1] σ := by
    obtain ⟨w, e6, e7⟩ := m4 (2321, [1]) (List.mem_of_getElem? (i := 0) rfl)
    obtain rfl : [fR x1] = w := Option.some.inj (show some [fR x1] = some w from e6)
    exact (fF_b (r := 2321) (by decide) rfl).mp e7
  have f1 : fB K n p 159 [fR x2] σ := by
    obtain ⟨w, e6, e7⟩ := m4 (2545, [2]) (List.mem_of_getElem? (i := 1) rfl)
    obtain rfl : [fR x2] = w := Option.some.inj (show some [fR x2] = some w from e6)
    exact (fF_b (r := 2545) (by decide) rfl).mp e7
  clear m1 m2 m3 m4
  obtain ⟨r, g, e, l1, l2, l3, l4⟩ := f0
  cases e
  obtain ⟨r9, g9, e9, k1, k2, k3, k4, k5⟩ := f1
  cases e9
  have q0 : fB K n (p) 154 [fR x0] σ := by
    exact ⟨_, g, rfl, ⟨_, ⟨b0, d0, _, _, s0, t0⟩, l1, l2, l3⟩, fun j hj => by have := l4 j hj; omega, _, g9, ⟨b0, d0, _, _, s1, t1⟩, k1, k2, k3, by rw [k4, bSn_0 64 l4], by rw [k5, bSn_0 64 l4]⟩
  exact ⟨p, fun _ => rfl, ⟨(fun q h => by cases h), fun q h => (by cases h), (fun f h => by cases h), (aAllc ⟨_, rfl, (fF_b (r := 2465) (by decide) rfl).mpr q0⟩ (fun f h => by cases h))⟩, [], List.mem_cons_self, fun f h => (by cases h)⟩
set_option maxRecDepth 8192 in
theorem rw_ruEQ0 {K : Nat → Nat} {n : Nat} : aGho (fF K n) fa_T K n (fJX K n) ag_ruEQ0 := by
  refine aGho_of ⟨rfl, rfl⟩ ?_
  intro p σ ρ hH hX hA hM
  have hG := aAG_of hA.1 (fun i e v he hv => (hA.2 i e v he hv).1)
  clear hA
  obtain ⟨v0, v1, v2, rfl, g0, g1, g2⟩ := fA_3 hG
  clear hG
  obtain ⟨x0, rfl, b0, d0⟩ := fG_ref (by decide) g0
  obtain ⟨x1, rfl, b1, d1⟩ := aG_int g1
  dsimp only at b1 d1
  obtain ⟨x2, rfl, b2, d2⟩ := aG_int g2
  dsimp only at b2 d2
  obtain ⟨m1, m2, m3, m4⟩ := hM
  have f0 : fB K n p 160 [fR x0] σ := by
    obtain ⟨w, e6, e7⟩ := m4 (2561, [0]) (List.mem_of_getElem? (i := 0) rfl)
    obtain rfl : [fR x0] = w := Option.some.inj (show some [fR x0] = some w from e6)
    exact (fF_b (r := 2561) (by decide) rfl).mp e7
  clear m1 m2 m3 m4
  obtain ⟨-, b, g, e, w, l⟩ := f0
  cases e
  have q0 : fB K n (p) 156 [fR x0, fI x1, fI x2] σ := by
    exact ⟨_, _, _, g, rfl, w, fun j hj _ => by rw [l j hj]; rfl⟩
  exact ⟨p, fun _ => rfl, ⟨(fun q h => by cases h), fun q h => (by cases h), (fun f h => by cases h), (aAllc ⟨_, rfl, (fF_b (r := 2499) (by decide) rfl).mpr q0⟩ (fun f h => by cases h))⟩, [], List.mem_cons_self, fun f h => (by cases h)⟩
set_option maxRecDepth 8192 in
theorem rw_ruEQn {K : Nat → Nat} {n : Nat} : aGho (fF K n) fa_T K n (fJX K n) ag_ruEQn := by
  refine aGho_of ⟨rfl, rfl⟩ ?_
  intro p σ ρ hH hX hA hM
  have hG := aAG_of hA.1 (fun i e v he hv => (hA.2 i e v he hv).1)
  clear hA
  obtain ⟨v0, v1, v2, v3, v4, rfl, g0, g1, g2, g3, g4⟩ := fA_5 hG
  clear hG
  obtain ⟨x0, rfl, b0, d0⟩ := fG_ref (by decide) g0
  obtain ⟨x1, rfl, b1, d1⟩ := aG_int g1
  dsimp only at b1 d1
  obtain ⟨x2, rfl, b2, d2⟩ := aG_int g2
  dsimp only at b2 d2
  obtain ⟨x3, rfl, b3, d3⟩ := aG_int g3
  dsimp only at b3 d3
  obtain ⟨x4, rfl, b4, d4⟩ := aG_int g4
  dsimp only at b4 d4
  obtain ⟨m1, m2, m3, m4⟩ := hM
  have l0 : 0 ≤ (1 * x3.toInt + (-1 * x1.toInt + 0)) + 1 := by
    obtain ⟨z, e6, e7⟩ := m3 ([(3, 1), (1, -1)], 1) (List.mem_of_getElem? (i := 0) rfl)
    obtain rfl : (1 * x3.toInt + (-1 * x1.toInt + 0)) = z := Option.some.inj (show some (1 * x3.toInt + (-1 * x1.toInt + 0)) = some z from e6)
    exact e7
  have l1 : 0 ≤ (-1 * x3.toInt + (1 * x1.toInt + 0)) + -1 := by
    obtain ⟨z, e6, e7⟩ := m3 ([(3, -1), (1, 1)], -1) (List.mem_of_getElem? (i := 1) rfl)
    obtain rfl : (-1 * x3.toInt + (1 * x1.toInt + 0)) = z := Option.some.inj (show some (-1 * x3.toInt + (1 * x1.toInt + 0)) = some z from e6)
    exact e7
  have f0 : fB K n p 156 [fR x0, fI x1, fI x2] σ := by
    obtain ⟨w, e6, e7⟩ := m4 (2499, [0, 1, 2]) (List.mem_of_getElem? (i := 0) rfl)
    obtain rfl : [fR x0, fI x1, fI x2] = w := Option.some.inj (show some [fR x0, fI x1, fI x2] = some w from e6)
    exact (fF_b (r := 2499) (by decide) rfl).mp e7
  clear m1 m2 m3 m4
  obtain ⟨b, r, f, g, e, w, l⟩ := f0
  cases e
  have q0 : fB K n (p) 156 [fR x0, fI x3, fI x4] σ := by
    exact ⟨_, _, _, g, rfl, w, fun j hj h => l j hj (by omega)⟩
  exact ⟨p, fun _ => rfl, ⟨(fun q h => by cases h), fun q h => (by cases h), (fun f h => by cases h), (aAllc ⟨_, rfl, (fF_b (r := 2499) (by decide) rfl).mpr q0⟩ (fun f h => by cases h))⟩, [], List.mem_cons_self, fun f h => (by cases h)⟩
set_option maxRecDepth 8192 in
theorem rw_ruEQm {K : Nat → Nat} {n : Nat} : aGho (fF K n) fa_T K n (fJX K n) ag_ruEQm := by
  refine aGho_of ⟨rfl, rfl⟩ ?_
  intro p σ ρ hH hX hA hM
  have hG := aAG_of hA.1 (fun i e v he hv => (hA.2 i e v he hv).1)
  clear hA
  obtain ⟨v0, v1, v2, v3, rfl, g0, g1, g2, g3⟩ := fA_4 hG
  clear hG
  obtain ⟨x0, rfl, b0, d0⟩ := fG_ref (by decide) g0
  obtain ⟨x1, rfl, b1, d1⟩ := aG_int g1
  dsimp only at b1 d1
  obtain ⟨x2, rfl, b2, d2⟩ := aG_int g2
  dsimp only at b2 d2
  obtain ⟨x3, rfl, b3, d3⟩ := aG_int g3
  dsimp only at b3 d3
  obtain ⟨m1, m2, m3, m4⟩ := hM
  have l0 : 0 ≤ (1 * x3.toInt + (-1 * x2.toInt + 0)) + 0 := by
    obtain ⟨z, e6, e7⟩ := m3 ([(3, 1), (2, -1)], 0) (List.mem_of_getElem? (i := 0) rfl)
    obtain rfl : (1 * x3.toInt + (-1 * x2.toInt + 0)) = z := Option.some.inj (show some (1 * x3.toInt + (-1 * x2.toInt + 0)) = some z from e6)
    exact e7
  have f0 : fB K n p 156 [fR x0, fI x1, fI x2] σ := by
    obtain ⟨w, e6, e7⟩ := m4 (2499, [0, 1, 2]) (List.mem_of_getElem? (i := 0) rfl)
    obtain rfl : [fR x0, fI x1, fI x2] = w := Option.some.inj (show some [fR x0, fI x1, fI x2] = some w from e6)
    exact (fF_b (r := 2499) (by decide) rfl).mp e7
  clear m1 m2 m3 m4
  obtain ⟨b, r, f, g, e, w, l⟩ := f0
  cases e
  have q0 : fB K n (p) 156 [fR x0, fI x1, fI x3] σ := by
    exact ⟨_, _, _, g, rfl, w, fun j hj h => l j hj (by omega)⟩
  exact ⟨p, fun _ => rfl, ⟨(fun q h => by cases h), fun q h => (by cases h), (fun f h => by cases h), (aAllc ⟨_, rfl, (fF_b (r := 2499) (by decide) rfl).mpr q0⟩ (fun f h => by cases h))⟩, [], List.mem_cons_self, fun f h => (by cases h)⟩
set_option maxRecDepth 8192 in
theorem rw_ruEQs {K : Nat → Nat} {n : Nat} : aGho (fF K n) fa_T K n (fJX K n) ag_ruEQs := by
  refine aGho_of ⟨rfl, rfl⟩ ?_
  intro p σ ρ hH hX hA hM
  have hG := aAG_of hA.1 (fun i e v he hv => (hA.2 i e v he hv).1)
  clear hA
  obtain ⟨v0, v1, v2, v3, rfl, g0, g1, g2, g3⟩ := fA_4 hG
  clear hG
  obtain ⟨x0, rfl, b0, d0⟩ := fG_ref (by decide) g0
  obtain ⟨x1, rfl, b1, d1⟩ := aG_int g1
  dsimp only at b1 d1
  obtain ⟨x2, rfl, b2, d2⟩ := aG_int g2
  dsimp only at b2 d2
  obtain ⟨x3, rfl, b3, d3⟩ := aG_int g3
  dsimp only at b3 d3
  obtain ⟨m1, m2, m3, m4⟩ := hM
  have l0 : 0 ≤ (1 * x3.toInt + (-8 * x1.toInt + (-1 * x2.toInt + 0))) + 0 := by
    obtain ⟨z, e6, e7⟩ := m3 ([(3, 1), (1, -8), (2, -1)], 0) (List.mem_of_getElem? (i := 0) rfl)
    obtain rfl : (1 * x3.toInt + (-8 * x1.toInt + (-1 * x2.toInt + 0))) = z := Option.some.inj (show some (1 * x3.toInt + (-8 * x1.toInt + (-1 * x2.toInt + 0))) = some z from e6)
    exact e7
  have l1 : 0 ≤ (-1 * x3.toInt + (8 * x1.toInt + (1 * x2.toInt + 0))) + 0 := by
    obtain ⟨z, e6, e7⟩ := m3 ([(3, -1), (1, 8), (2, 1)], 0) (List.mem_of_getElem? (i := 1) rfl)
    obtain rfl : (-1 * x3.toInt + (8 * x1.toInt + (1 * x2.toInt + 0))) = z := Option.some.inj (show some (-1 * x3.toInt + (8 * x1.toInt + (1 * x2.toInt + 0))) = some z from e6)
    exact e7
  have f0 : fB K n p 156 [fR x0, fI x1, fI x2] σ := by
    obtain ⟨w, e6, e7⟩ := m4 (2499, [0, 1, 2]) (List.mem_of_getElem? (i := 0) rfl)
    obtain rfl : [fR x0, fI x1, fI x2] = w := Option.some.inj (show some [fR x0, fI x1, fI x2] = some w from e6)
    exact (fF_b (r := 2499) (by decide) rfl).mp e7
  clear m1 m2 m3 m4
  obtain ⟨b, r, f, g, e, w, l⟩ := f0
  cases e
  have q0 : fB K n (p) 155 [fR x0, fI x3] σ := by
    exact ⟨_, _, g, rfl, w, fun j hj h => l j hj (by omega)⟩
  exact ⟨p, fun _ => rfl, ⟨(fun q h => by cases h), fun q h => (by cases h), (fun f h => by cases h), (aAllc ⟨_, rfl, (fF_b (r := 2482) (by decide) rfl).mpr q0⟩ (fun f h => by cases h))⟩, [], List.mem_cons_self, fun f h => (by cases h)⟩
set_option maxRecDepth 8192 in
theorem rw_ruEQt {K : Nat → Nat} {n : Nat} : aGho (fF K n) fa_T K n (fJX K n) ag_ruEQt := by
  refine aGho_of ⟨rfl, rfl⟩ ?_
  intro p σ ρ hH hX hA hM
  have hG := aAG_of hA.1 (fun i e v he hv => (hA.2 i e v he hv).1)
  clear hA
  obtain ⟨v0, v1, v2, v3, v4, rfl, g0, g1, g2, g3, g4⟩ := fA_5 hG
  clear hG
  obtain ⟨x0, rfl, b0, d0⟩ := fG_ref (by decide) g0
  obtain ⟨x1, rfl, b1, d1⟩ := aG_int g1
  dsimp only at b1 d1
  obtain ⟨x2, rfl, b2, d2⟩ := aG_int g2
  dsimp only at b2 d2
  obtain ⟨x3, rfl, b3, d3⟩ := aG_int g3
  dsimp only at b3 d3
  obtain ⟨x4, rfl, b4, d4⟩ := aG_int g4
  dsimp only at b4 d4
  obtain ⟨m1, m2, m3, m4⟩ := hM
  have l0 : 0 ≤ (1 * x2.toInt + (-8 * x1.toInt + (-1 * x4.toInt + 0))) + 0 := by
    obtain ⟨z, e6, e7⟩ := m3 ([(2, 1), (1, -8), (4, -1)], 0) (List.mem_of_getElem? (i := 0) rfl)
    obtain rfl : (1 * x2.toInt + (-8 * x1.toInt + (-1 * x4.toInt + 0))) = z := Option.some.inj (show some (1 * x2.toInt + (-8 * x1.toInt + (-1 * x4.toInt + 0))) = some z from e6)
    exact e7
  have l1 : 0 ≤ (-1 * x2.toInt + (8 * x1.toInt + (1 * x4.toInt + 0))) + 0 := by
    obtain ⟨z, e6, e7⟩ := m3 ([(2, -1), (1, 8), (4, 1)], 0) (List.mem_of_getElem? (i := 1) rfl)
    obtain rfl : (-1 * x2.toInt + (8 * x1.toInt + (1 * x4.toInt + 0))) = z := Option.some.inj (show some (-1 * x2.toInt + (8 * x1.toInt + (1 * x4.toInt + 0))) = some z from e6)
    exact e7
  have l2 : 0 ≤ (1 * x3.toInt + (-1 * x4.toInt + 0)) + -1 := by
    obtain ⟨z, e6, e7⟩ := m3 ([(3, 1), (4, -1)], -1) (List.mem_of_getElem? (i := 2) rfl)
    obtain rfl : (1 * x3.toInt + (-1 * x4.toInt + 0)) = z := Option.some.inj (show some (1 * x3.toInt + (-1 * x4.toInt + 0)) = some z from e6)
    exact e7
  have l3 : 0 ≤ (-1 * x3.toInt + (1 * x4.toInt + 0)) + 1 := by
    obtain ⟨z, e6, e7⟩ := m3 ([(3, -1), (4, 1)], 1) (List.mem_of_getElem? (i := 3) rfl)
    obtain rfl : (-1 * x3.toInt + (1 * x4.toInt + 0)) = z := Option.some.inj (show some (-1 * x3.toInt + (1 * x4.toInt + 0)) = some z from e6)
    exact e7
  have f0 : fB K n p 144 [fR x0, fI x2] σ := by
    obtain ⟨w, e6, e7⟩ := m4 (2306, [0, 2]) (List.mem_of_getElem? (i := 0) rfl)
    obtain rfl : [fR x0, fI x2] = w := Option.some.inj (show some [fR x0, fI x2] = some w from e6)
    exact (fF_b (r := 2306) (by decide) rfl).mp e7
  clear m1 m2 m3 m4
  obtain ⟨b, s, g, e, w, l⟩ := f0
  cases e
  have q0 : fB K n (p) 156 [fR x0, fI x1, fI x3] σ := by
    exact ⟨_, _, _, g, rfl, w, fun j hj h => l j hj (by omega)⟩
  exact ⟨p, fun _ => rfl, ⟨(fun q h => by cases h), fun q h => (by cases h), (fun f h => by cases h), (aAllc ⟨_, rfl, (fF_b (r := 2499) (by decide) rfl).mpr q0⟩ (fun f h => by cases h))⟩, [], List.mem_cons_self, fun f h => (by cases h)⟩
set_option maxRecDepth 8192 in
theorem rw_ruPW0 {K : Nat → Nat} {n : Nat} : aGho (fF K n) fa_T K n (fJX K n) ag_ruPW0 := by
  refine aGho_of ⟨rfl, rfl⟩ ?_
  intro p σ ρ hH hX hA hM
  have hG := aAG_of hA.1 (fun i e v he hv => (hA.2 i e v he hv).1)
  clear hA
  obtain ⟨v0, v1, rfl, g0, g1⟩ := fA_2 hG
  clear hG
  obtain ⟨x0, rfl, b0, d0⟩ := fG_ref (by decide) g0
  obtain ⟨x1, rfl, b1, d1⟩ := aG_int g1
  dsimp only at b1 d1
  obtain ⟨m1, m2, m3, m4⟩ := hM
  clear m1 m2 m3 m4
  obtain ⟨g, w⟩ := fMe_ex hH b0 d0
  have q0 : fB K n (p) 157 [fR x0, fI x1] σ := by
    exact ⟨_, _, g, rfl, w, fun j hj => by omega⟩
  exact ⟨p, fun _ => rfl, ⟨(fun q h => by cases h), fun q h => (by cases h), (fun f h => by cases h), (aAllc ⟨_, rfl, (fF_b (r := 2514) (by decide) rfl).mpr q0⟩ (fun f h => by cases h))⟩, [], List.mem_cons_self, fun f h => (by cases h)⟩
set_option maxRecDepth 8192 in
theorem rw_ruPWn {K : Nat → Nat} {n : Nat} : aGho (fF K n) fa_T K n (fJX K n) ag_ruPWn := by
  refine aGho_of ⟨rfl, rfl⟩ ?_
  intro p σ ρ hH hX hA hM
  have hG := aAG_of hA.1 (fun i e v he hv => (hA.2 i e v he hv).1)
  clear hA
  obtain ⟨v0, v1, v2, v3, rfl, g0, g1, g2, g3⟩ := fA_4 hG
  clear hG
  obtain ⟨x0, rfl, b0, d0⟩ := fG_ref (by decide) g0
  obtain ⟨x1, rfl, b1, d1⟩ := aG_int g1
  dsimp only at b1 d1
  obtain ⟨x2, rfl, b2, d2⟩ := aG_int g2
  dsimp only at b2 d2
  obtain ⟨x3, rfl, b3, d3⟩ := aG_int g3
  dsimp only at b3 d3
  obtain ⟨m1, m2, m3, m4⟩ := hM
  have l0 : 0 ≤ (1 * x2.toInt + (-1 * x1.toInt + 0)) + -1 := by
    obtain ⟨z, e6, e7⟩ := m3 ([(2, 1), (1, -1)], -1) (List.mem_of_getElem? (i := 0) rfl)
    obtain rfl : (1 * x2.toInt + (-1 * x1.toInt + 0)) = z := Option.some.inj (show some (1 * x2.toInt + (-1 * x1.toInt + 0)) = some z from e6)
    exact e7
  have l1 : 0 ≤ (-1 * x2.toInt + (1 * x1.toInt + 0)) + 1 := by
    obtain ⟨z, e6, e7⟩ := m3 ([(2, -1), (1, 1)], 1) (List.mem_of_getElem? (i := 1) rfl)
    obtain rfl : (-1 * x2.toInt + (1 * x1.toInt + 0)) = z := Option.some.inj (show some (-1 * x2.toInt + (1 * x1.toInt + 0)) = some z from e6)
    exact e7
  have f0 : fB K n p 130 [fR x0, fI x1, fI x3] σ := by
    obtain ⟨w, e6, e7⟩ := m4 (2083, [0, 1, 3]) (List.mem_of_getElem? (i := 0) rfl)
    obtain rfl : [fR x0, fI x1, fI x3] = w := Option.some.inj (show some [fR x0, fI x1, fI x3] = some w from e6)
    exact (fF_b (r := 2083) (by decide) rfl).mp e7
  clear m1 m2 m3 m4
  obtain ⟨g, w, l⟩ := f130c f0
  have q0 : fB K n (p) 157 [fR x0, fI x2] σ := by
    exact ⟨_, _, g, rfl, w, fun j hj => l j (by omega)⟩
  exact ⟨p, fun _ => rfl, ⟨(fun q h => by cases h), fun q h => (by cases h), (fun f h => by cases h), (aAllc ⟨_, rfl, (fF_b (r := 2514) (by decide) rfl).mpr q0⟩ (fun f h => by cases h))⟩, [], List.mem_cons_self, fun f h => (by cases h)⟩
set_option maxRecDepth 8192 in
theorem rw_ruMQ {K : Nat → Nat} {n : Nat} : aGho (fF K n) fa_T K n (fJX K n) ag_ruMQ := by
  refine aGho_of ⟨rfl, rfl⟩ ?_
  intro p σ ρ hH hX hA hM
  have hG := aAG_of hA.1 (fun i e v he hv => (hA.2 i e v he hv).1)
  clear hA
  obtain ⟨v0, v1, v2, v3, rfl, g0, g1, g2, g3⟩ := fA_4 hG
  clear hG
  obtain ⟨x0, rfl, b0, d0⟩ := fG_ref (by decide) g0
  obtain ⟨x1, rfl, b1, d1⟩ := aG_int g1
  dsimp only at b1 d1
  obtain ⟨x2, rfl, b2, d2⟩ := aG_int g2
  dsimp only at b2 d2
  obtain ⟨x3, rfl, b3, d3⟩ := fG_ref (by decide) g3
  obtain ⟨m1, m2, m3, m4⟩ := hM
  obtain ⟨a0, c0, fs0, w0, e1, s0, t0, e4⟩ := m1 (0, 0, 3) (List.mem_of_getElem? (i := 0) rfl)
  obtain rfl : x0 = a0 := Sum.inl.inj (Option.some.inj (Sum.inr.inj (Sum.inr.inj (Option.some.inj (show some (fR x0) = some _ from e1)))))
  obtain rfl : fR x3 = w0 := Option.some.inj (show some (fR x3) = some w0 from e4)
  clear e1 e4
  obtain ⟨a, mc0, ty0, gc0, ic0, e1, sc0, jc0, e4, e5⟩ := m2 (3, ([(1, 1)], 56), 2) (List.mem_of_getElem? (i := 0) rfl)
  obtain rfl : x3 = a := Sum.inl.inj (Option.some.inj (Sum.inr.inj (Sum.inr.inj (Option.some.inj (show some (fR x3) = some _ from e1)))))
  obtain ⟨gc0, rfl⟩ : ∃ g, gc0 = .inl g := by
    rcases gc0 with g | g
    · exact ⟨g, rfl⟩
    · exact absurd (show some (fI x2) = some (.inr (.inl (g ic0))) from e5) (fun h => by cases h)
  have sc0 : σ x3 = .inl (ty0, mc0, .inl gc0) := sc0
  have ec0 : x2 = gc0 ic0 := Sum.inl.inj (Option.some.inj (show some (fI x2) = some _ from e5))
  have kc0 : (ic0 : Int) = (1 * x1.toInt + 0) + 56 := by
    obtain ⟨z, e6, e7⟩ := e4
    obtain rfl : (1 * x1.toInt + 0) = z := Option.some.inj (show some (1 * x1.toInt + 0) = some z from e6)
    exact e7
  clear e1 e4 e5
  clear m1 m2 m3 m4
  obtain ⟨g, w, e⟩ := fMe_mk hH b0 d0 s0 t0 b3 d3
  rw [sc0] at e
  cases e
  have q0 : fB K n (p) 130 [fR x0, fI x1, fI x2, fI x2] σ := by
    exact ⟨_, _, gc0, w, Or.inr (Or.inr ⟨_, _, rfl, by rw [ec0, show 56 + x1.toInt.toNat = ic0 by omega]⟩)⟩
  exact ⟨p, fun _ => rfl, ⟨(fun q h => by cases h), fun q h => (by cases h), (fun f h => by cases h), (aAllc ⟨_, rfl, (fF_b (r := 2084) (by decide) rfl).mpr q0⟩ (fun f h => by cases h))⟩, [], List.mem_cons_self, fun f h => (by cases h)⟩
set_option maxRecDepth 8192 in
theorem rw_ruPA0 {K : Nat → Nat} {n : Nat} : aGho (fF K n) fa_T K n (fJX K n) ag_ruPA0 := by
  refine aGho_of ⟨rfl, rfl⟩ ?_
  intro p σ ρ hH hX hA hM
  have hG := aAG_of hA.1 (fun i e v he hv => (hA.2 i e v he hv).1)
  clear hA
  obtain ⟨v0, v1, v2, v3, v4, rfl, g0, g1, g2, g3, g4⟩ := fA_5 hG
  clear hG
  obtain ⟨x0, rfl, b0, d0⟩ := fG_ref (by decide) g0
  obtain ⟨x1, rfl, b1, d1⟩ := aG_int g1
  dsimp only at b1 d1
  obtain ⟨x2, rfl, b2, d2⟩ := aG_int g2
  dsimp only at b2 d2
  obtain ⟨x3, rfl, b3, d3⟩ := aG_int g3
  dsimp only at b3 d3
  obtain ⟨x4, rfl, b4, d4⟩ := aG_int g4
  dsimp only at b4 d4
  obtain ⟨m1, m2, m3, m4⟩ := hM
  have l0 : 0 ≤ (1 * x3.toInt + (-8 * x4.toInt + (-1 * x2.toInt + 0))) + 0 := by
    obtain ⟨z, e6, e7⟩ := m3 ([(3, 1), (4, -8), (2, -1)], 0) (List.mem_of_getElem? (i := 0) rfl)
    obtain rfl : (1 * x3.toInt + (-8 * x4.toInt + (-1 * x2.toInt + 0))) = z := Option.some.inj (show some (1 * x3.toInt + (-8 * x4.toInt + (-1 * x2.toInt + 0))) = some z from e6)
    exact e7
  have l1 : 0 ≤ (-1 * x3.toInt + (8 * x4.toInt + (1 * x2.toInt + 0))) + 0 := by
    obtain ⟨z, e6, e7⟩ := m3 ([(3, -1), (4, 8), (2, 1)], 0) (List.mem_of_getElem? (i := 1) rfl)
    obtain rfl : (-1 * x3.toInt + (8 * x4.toInt + (1 * x2.toInt + 0))) = z := Option.some.inj (show some (-1 * x3.toInt + (8 * x4.toInt + (1 * x2.toInt + 0))) = some z from e6)
    exact e7
  have l2 : 0 ≤ (-1 * x2.toInt + 0) + 0 := by
    obtain ⟨z, e6, e7⟩ := m3 ([(2, -1)], 0) (List.mem_of_getElem? (i := 2) rfl)
    obtain rfl : (-1 * x2.toInt + 0) = z := Option.some.inj (show some (-1 * x2.toInt + 0) = some z from e6)
    exact e7
  have f0 : fB K n p 157 [fR x0, fI x1] σ := by
    obtain ⟨w, e6, e7⟩ := m4 (2514, [0, 1]) (List.mem_of_getElem? (i := 0) rfl)
    obtain rfl : [fR x0, fI x1] = w := Option.some.inj (show some [fR x0, fI x1] = some w from e6)
    exact (fF_b (r := 2514) (by decide) rfl).mp e7
  have f1 : fB K n p 146 [fR x0, fI x1, fI x3] σ := by
    obtain ⟨w, e6, e7⟩ := m4 (2339, [0, 1, 3]) (List.mem_of_getElem? (i := 1) rfl)
    obtain rfl : [fR x0, fI x1, fI x3] = w := Option.some.inj (show some [fR x0, fI x1, fI x3] = some w from e6)
    exact (fF_b (r := 2339) (by decide) rfl).mp e7
  clear m1 m2 m3 m4
  obtain ⟨b8, i8, g8, e8, w8, l8⟩ := f0
  cases e8
  obtain ⟨b9, s9, v9, g9, e9, w9, l9⟩ := f1
  cases e9
  obtain rfl := fMe_u w8 w9
  have q0 : fB K n (p) 130 [fR x0, fI x1] σ := by
    exact ⟨_, _, g8, w8, Or.inl ⟨rfl, l8, by unfold fNp; rw [l9]; omega⟩⟩
  exact ⟨p, fun _ => rfl, ⟨(fun q h => by cases h), fun q h => (by cases h), (fun f h => by cases h), (aAllc ⟨_, rfl, (fF_b (r := 2082) (by decide) rfl).mpr q0⟩ (fun f h => by cases h))⟩, [], List.mem_cons_self, fun f h => (by cases h)⟩
set_option maxRecDepth 8192 in
theorem rw_ruPB0 {K : Nat → Nat} {n : Nat} : aGho (fF K n) fa_T K n (fJX K n) ag_ruPB0 := by
  refine aGho_of ⟨rfl, rfl⟩ ?_
  intro p σ ρ hH hX hA hM
  have hG := aAG_of hA.1 (fun i e v he hv => (hA.2 i e v he hv).1)
  clear hA
  obtain ⟨v0, v1, v2, v3, v4, v5, rfl, g0, g1, g2, g3, g4, g5⟩ := fA_6 hG
  clear hG
  obtain ⟨x0, rfl, b0, d0⟩ := fG_ref (by decide) g0
  obtain ⟨x1, rfl, b1, d1⟩ := aG_int g1
  dsimp only at b1 d1
  obtain ⟨x2, rfl, b2, d2⟩ := aG_int g2
  dsimp only at b2 d2
  obtain ⟨x3, rfl, b3, d3⟩ := aG_int g3
  dsimp only at b3 d3
  obtain ⟨x4, rfl, b4, d4⟩ := aG_int g4
  dsimp only at b4 d4
  obtain ⟨x5, rfl, b5, d5⟩ := aG_int g5
  dsimp only at b5 d5
  obtain ⟨m1, m2, m3, m4⟩ := hM
  have l0 : 0 ≤ (1 * x3.toInt + (-8 * x4.toInt + (-1 * x2.toInt + 0))) + 0 := by
    obtain ⟨z, e6, e7⟩ := m3 ([(3, 1), (4, -8), (2, -1)], 0) (List.mem_of_getElem? (i := 0) rfl)
    obtain rfl : (1 * x3.toInt + (-8 * x4.toInt + (-1 * x2.toInt + 0))) = z := Option.some.inj (show some (1 * x3.toInt + (-8 * x4.toInt + (-1 * x2.toInt + 0))) = some z from e6)
    exact e7
  have l1 : 0 ≤ (-1 * x3.toInt + (8 * x4.toInt + (1 * x2.toInt + 0))) + 0 := by
    obtain ⟨z, e6, e7⟩ := m3 ([(3, -1), (4, 8), (2, 1)], 0) (List.mem_of_getElem? (i := 1) rfl)
    obtain rfl : (-1 * x3.toInt + (8 * x4.toInt + (1 * x2.toInt + 0))) = z := Option.some.inj (show some (-1 * x3.toInt + (8 * x4.toInt + (1 * x2.toInt + 0))) = some z from e6)
    exact e7
  have l2 : 0 ≤ (-1 * x2.toInt + 0) + 0 := by
    obtain ⟨z, e6, e7⟩ := m3 ([(2, -1)], 0) (List.mem_of_getElem? (i := 2) rfl)
    obtain rfl : (-1 * x2.toInt + 0) = z := Option.some.inj (show some (-1 * x2.toInt + 0) = some z from e6)
    exact e7
  have f0 : fB K n p 130 [fR x0, fI x1] σ := by
    obtain ⟨w, e6, e7⟩ := m4 (2082, [0, 1]) (List.mem_of_getElem? (i := 0) rfl)
    obtain rfl : [fR x0, fI x1] = w := Option.some.inj (show some [fR x0, fI x1] = some w from e6)
    exact (fF_b (r := 2082) (by decide) rfl).mp e7
  have f1 : fB K n p 130 [fR x0, fI x1, fI x3, fI x3] σ := by
    obtain ⟨w, e6, e7⟩ := m4 (2084, [0, 1, 3, 3]) (List.mem_of_getElem? (i := 1) rfl)
    obtain rfl : [fR x0, fI x1, fI x3, fI x3] = w := Option.some.inj (show some [fR x0, fI x1, fI x3, fI x3] = some w from e6)
    exact (fF_b (r := 2084) (by decide) rfl).mp e7
  clear m1 m2 m3 m4
  obtain ⟨g8, w8, l8, n8⟩ := f130b f0
  obtain ⟨g9, w9, l9⟩ := f130d f1
  obtain rfl := fMe_u w8 w9
  have q0 : fB K n (p) 130 [fR x0, fI x1, fI x5] σ := by
    refine ⟨_, _, g8, w8, Or.inr (Or.inl ⟨_, rfl, fun j hj => ?_⟩)⟩
    by_cases c : (j : Int) < x1.toInt
    · exact l8 j c
    · obtain rfl : j = x1.toInt.toNat := by omega
      exact ⟨n8, by unfold fNp; rw [l9]; omega⟩
  exact ⟨p, fun _ => rfl, ⟨(fun q h => by cases h), fun q h => (by cases h), (fun f h => by cases h), (aAllc ⟨_, rfl, (fF_b (r := 2083) (by decide) rfl).mpr q0⟩ (fun f h => by cases h))⟩, [], List.mem_cons_self, fun f h => (by cases h)⟩
set_option maxRecDepth 8192 in
theorem rw_ruPA2 {K : Nat → Nat} {n : Nat} : aGho (fF K n) fa_T K n (fJX K n) ag_ruPA2 := by
  refine aGho_of ⟨rfl, rfl⟩ ?_
  intro p σ ρ hH hX hA hM
  have hG := aAG_of hA.1 (fun i e v he hv => (hA.2 i e v he hv).1)
  clear hA
  obtain ⟨v0, v1, v2, v3, v4, rfl, g0, g1, g2, g3, g4⟩ := fA_5 hG
  clear hG
  obtain ⟨x0, rfl, b0, d0⟩ := fG_ref (by decide) g0
  obtain ⟨x1, rfl, b1, d1⟩ := aG_int g1
  dsimp only at b1 d1
  obtain ⟨x2, rfl, b2, d2⟩ := aG_int g2
  dsimp only at b2 d2
  obtain ⟨x3, rfl, b3, d3⟩ := aG_int g3
  dsimp only at b3 d3
  obtain ⟨x4, rfl, b4, d4⟩ := aG_int g4
  dsimp only at b4 d4
  obtain ⟨m1, m2, m3, m4⟩ := hM
  have l0 : 0 ≤ (1 * x3.toInt + (-8 * x4.toInt + (-1 * x2.toInt + 0))) + 0 := by
    obtain ⟨z, e6, e7⟩ := m3 ([(3, 1), (4, -8), (2, -1)], 0) (List.mem_of_getElem? (i := 0) rfl)
    obtain rfl : (1 * x3.toInt + (-8 * x4.toInt + (-1 * x2.toInt + 0))) = z := Option.some.inj (show some (1 * x3.toInt + (-8 * x4.toInt + (-1 * x2.toInt + 0))) = some z from e6)
    exact e7
  have l1 : 0 ≤ (-1 * x3.toInt + (8 * x4.toInt + (1 * x2.toInt + 0))) + 0 := by
    obtain ⟨z, e6, e7⟩ := m3 ([(3, -1), (4, 8), (2, 1)], 0) (List.mem_of_getElem? (i := 1) rfl)
    obtain rfl : (-1 * x3.toInt + (8 * x4.toInt + (1 * x2.toInt + 0))) = z := Option.some.inj (show some (-1 * x3.toInt + (8 * x4.toInt + (1 * x2.toInt + 0))) = some z from e6)
    exact e7
  have l2 : 0 ≤ (1 * x2.toInt + 0) + -2 := by
    obtain ⟨z, e6, e7⟩ := m3 ([(2, 1)], -2) (List.mem_of_getElem? (i := 2) rfl)
    obtain rfl : (1 * x2.toInt + 0) = z := Option.some.inj (show some (1 * x2.toInt + 0) = some z from e6)
    exact e7
  have f0 : fB K n p 157 [fR x0, fI x1] σ := by
    obtain ⟨w, e6, e7⟩ := m4 (2514, [0, 1]) (List.mem_of_getElem? (i := 0) rfl)
    obtain rfl : [fR x0, fI x1] = w := Option.some.inj (show some [fR x0, fI x1] = some w from e6)
    exact (fF_b (r := 2514) (by decide) rfl).mp e7
  have f1 : fB K n p 146 [fR x0, fI x1, fI x3] σ := by
    obtain ⟨w, e6, e7⟩ := m4 (2339, [0, 1, 3]) (List.mem_of_getElem? (i := 1) rfl)
    obtain rfl : [fR x0, fI x1, fI x3] = w := Option.some.inj (show some [fR x0, fI x1, fI x3] = some w from e6)
    exact (fF_b (r := 2339) (by decide) rfl).mp e7
  clear m1 m2 m3 m4
  obtain ⟨b8, i8, g8, e8, w8, l8⟩ := f0
  cases e8
  obtain ⟨b9, s9, v9, g9, e9, w9, l9⟩ := f1
  cases e9
  obtain rfl := fMe_u w8 w9
  have q0 : fB K n (p) 130 [fR x0, fI x1] σ := by
    exact ⟨_, _, g8, w8, Or.inl ⟨rfl, l8, by unfold fNp; rw [l9]; omega⟩⟩
  exact ⟨p, fun _ => rfl, ⟨(fun q h => by cases h), fun q h => (by cases h), (fun f h => by cases h), (aAllc ⟨_, rfl, (fF_b (r := 2082) (by decide) rfl).mpr q0⟩ (fun f h => by cases h))⟩, [], List.mem_cons_self, fun f h => (by cases h)⟩
set_option maxRecDepth 8192 in
theorem rw_ruPB2 {K : Nat → Nat} {n : Nat} : aGho (fF K n) fa_T K n (fJX K n) ag_ruPB2 := by
  refine aGho_of ⟨rfl, rfl⟩ ?_
  intro p σ ρ hH hX hA hM
  have hG := aAG_of hA.1 (fun i e v he hv => (hA.2 i e v he hv).1)
  clear hA
  obtain ⟨v0, v1, v2, v3, v4, v5, rfl, g0, g1, g2, g3, g4, g5⟩ := fA_6 hG
  clear hG
  obtain ⟨x0, rfl, b0, d0⟩ := fG_ref (by decide) g0
  obtain ⟨x1, rfl, b1, d1⟩ := aG_int g1
  dsimp only at b1 d1
  obtain ⟨x2, rfl, b2, d2⟩ := aG_int g2
  dsimp only at b2 d2
  obtain ⟨x3, rfl, b3, d3⟩ := aG_int g3
  dsimp only at b3 d3
  obtain ⟨x4, rfl, b4, d4⟩ := aG_int g4
  dsimp only at b4 d4
  obtain ⟨x5, rfl, b5, d5⟩ := aG_int g5
  dsimp only at b5 d5
  obtain ⟨m1, m2, m3, m4⟩ := hM
  have l0 : 0 ≤ (1 * x3.toInt + (-8 * x4.toInt + (-1 * x2.toInt + 0))) + 0 := by
    obtain ⟨z, e6, e7⟩ := m3 ([(3, 1), (4, -8), (2, -1)], 0) (List.mem_of_getElem? (i := 0) rfl)
    obtain rfl : (1 * x3.toInt + (-8 * x4.toInt + (-1 * x2.toInt + 0))) = z := Option.some.inj (show some (1 * x3.toInt + (-8 * x4.toInt + (-1 * x2.toInt + 0))) = some z from e6)
    exact e7
  have l1 : 0 ≤ (-1 * x3.toInt + (8 * x4.toInt + (1 * x2.toInt + 0))) + 0 := by
    obtain ⟨z, e6, e7⟩ := m3 ([(3, -1), (4, 8), (2, 1)], 0) (List.mem_of_getElem? (i := 1) rfl)
    obtain rfl : (-1 * x3.toInt + (8 * x4.toInt + (1 * x2.toInt + 0))) = z := Option.some.inj (show some (-1 * x3.toInt + (8 * x4.toInt + (1 * x2.toInt + 0))) = some z from e6)
    exact e7
  have l2 : 0 ≤ (1 * x2.toInt + 0) + -2 := by
    obtain ⟨z, e6, e7⟩ := m3 ([(2, 1)], -2) (List.mem_of_getElem? (i := 2) rfl)
    obtain rfl : (1 * x2.toInt + 0) = z := Option.some.inj (show some (1 * x2.toInt + 0) = some z from e6)
    exact e7
  have f0 : fB K n p 130 [fR x0, fI x1] σ := by
    obtain ⟨w, e6, e7⟩ := m4 (2082, [0, 1]) (List.mem_of_getElem? (i := 0) rfl)
    obtain rfl : [fR x0, fI x1] = w := Option.some.inj (show some [fR x0, fI x1] = some w from e6)
    exact (fF_b (r := 2082) (by decide) rfl).mp e7
  have f1 : fB K n p 130 [fR x0, fI x1, fI x3, fI x3] σ := by
    obtain ⟨w, e6, e7⟩ := m4 (2084, [0, 1, 3, 3]) (List.mem_of_getElem? (i := 1) rfl)
    obtain rfl : [fR x0, fI x1, fI x3, fI x3] = w := Option.some.inj (show some [fR x0, fI x1, fI x3, fI x3] = some w from e6)
    exact (fF_b (r := 2084) (by decide) rfl).mp e7
  clear m1 m2 m3 m4
  obtain ⟨g8, w8, l8, n8⟩ := f130b f0
  obtain ⟨g9, w9, l9⟩ := f130d f1
  obtain rfl := fMe_u w8 w9
  have q0 : fB K n (p) 130 [fR x0, fI x1, fI x5] σ := by
    refine ⟨_, _, g8, w8, Or.inr (Or.inl ⟨_, rfl, fun j hj => ?_⟩)⟩
    by_cases c : (j : Int) < x1.toInt
    · exact l8 j c
    · obtain rfl : j = x1.toInt.toNat := by omega
      exact ⟨n8, by unfold fNp; rw [l9]; omega⟩
  exact ⟨p, fun _ => rfl, ⟨(fun q h => by cases h), fun q h => (by cases h), (fun f h => by cases h), (aAllc ⟨_, rfl, (fF_b (r := 2083) (by decide) rfl).mpr q0⟩ (fun f h => by cases h))⟩, [], List.mem_cons_self, fun f h => (by cases h)⟩
set_option maxRecDepth 8192 in
theorem rw_ruMC1 {K : Nat → Nat} {n : Nat} : aGho (fF K n) fa_T K n (fJX K n) ag_ruMC1 := by
  refine aGho_of ⟨rfl, rfl⟩ ?_
  intro p σ ρ hH hX hA hM
  have hG := aAG_of hA.1 (fun i e v he hv => (hA.2 i e v he hv).1)
  clear hA
  obtain ⟨v0, v1, v2, v3, rfl, g0, g1, g2, g3⟩ := fA_4 hG
  clear hG
  obtain ⟨x0, rfl, b0, d0⟩ := fG_ref (by decide) g0
  obtain ⟨x1, rfl, b1, d1⟩ := aG_int g1
  dsimp only at b1 d1
  obtain ⟨x2, rfl, b2, d2⟩ := aG_int g2
  dsimp only at b2 d2
  obtain ⟨x3, rfl, b3, d3⟩ := fG_ref (by decide) g3
  obtain ⟨m1, m2, m3, m4⟩ := hM
  obtain ⟨a0, c0, fs0, w0, e1, s0, t0, e4⟩ := m1 (0, 0, 3) (List.mem_of_getElem? (i := 0) rfl)
  obtain rfl : x0 = a0 := Sum.inl.inj (Option.some.inj (Sum.inr.inj (Sum.inr.inj (Option.some.inj (show some (fR x0) = some _ from e1)))))
  obtain rfl : fR x3 = w0 := Option.some.inj (show some (fR x3) = some w0 from e4)
  clear e1 e4
  obtain ⟨a, mc0, ty0, gc0, ic0, e1, sc0, jc0, e4, e5⟩ := m2 (3, ([(1, 1)], 0), 2) (List.mem_of_getElem? (i := 0) rfl)
  obtain rfl : x3 = a := Sum.inl.inj (Option.some.inj (Sum.inr.inj (Sum.inr.inj (Option.some.inj (show some (fR x3) = some _ from e1)))))
  obtain ⟨gc0, rfl⟩ : ∃ g, gc0 = .inl g := by
    rcases gc0 with g | g
    · exact ⟨g, rfl⟩
    · exact absurd (show some (fI x2) = some (.inr (.inl (g ic0))) from e5) (fun h => by cases h)
  have sc0 : σ x3 = .inl (ty0, mc0, .inl gc0) := sc0
  have ec0 : x2 = gc0 ic0 := Sum.inl.inj (Option.some.inj (show some (fI x2) = some _ from e5))
  have kc0 : (ic0 : Int) = (1 * x1.toInt + 0) + 0 := by
    obtain ⟨z, e6, e7⟩ := e4
    obtain rfl : (1 * x1.toInt + 0) = z := Option.some.inj (show some (1 * x1.toInt + 0) = some z from e6)
    exact e7
  clear e1 e4 e5
  obtain rfl : ic0 = x1.toInt.toNat := by omega
  clear m1 m2 m3 m4
  obtain ⟨g, w, e⟩ := fMe_mk hH b0 d0 s0 t0 b3 d3
  rw [sc0] at e
  cases e
  have q0 : fB K n (p) 146 [fR x0, fI x1, fI x2] σ := by
    exact ⟨_, _, _, gc0, rfl, w, ec0.symm⟩
  exact ⟨p, fun _ => rfl, ⟨(fun q h => by cases h), fun q h => (by cases h), (fun f h => by cases h), (aAllc ⟨_, rfl, (fF_b (r := 2339) (by decide) rfl).mpr q0⟩ (fun f h => by cases h))⟩, [], List.mem_cons_self, fun f h => (by cases h)⟩
set_option maxRecDepth 8192 in
theorem rw_ruMC2 {K : Nat → Nat} {n : Nat} : aGho (fF K n) fa_T K n (fJX K n) ag_ruMC2 := by
  refine aGho_of ⟨rfl, rfl⟩ ?_
  intro p σ ρ hH hX hA hM
  have hG := aAG_of hA.1 (fun i e v he hv => (hA.2 i e v he hv).1)
  clear hA
  obtain ⟨v0, v1, v2, v3, rfl, g0, g1, g2, g3⟩ := fA_4 hG
  clear hG
  obtain ⟨x0, rfl, b0, d0⟩ := fG_ref (by decide) g0
  obtain ⟨x1, rfl, b1, d1⟩ := aG_int g1
  dsimp only at b1 d1
  obtain ⟨x2, rfl, b2, d2⟩ := aG_int g2
  dsimp only at b2 d2
  obtain ⟨x3, rfl, b3, d3⟩ := fG_ref (by decide) g3
  obtain ⟨m1, m2, m3, m4⟩ := hM
  obtain ⟨a0, c0, fs0, w0, e1, s0, t0, e4⟩ := m1 (0, 0, 3) (List.mem_of_getElem? (i := 0) rfl)
  obtain rfl : x0 = a0 := Sum.inl.inj (Option.some.inj (Sum.inr.inj (Sum.inr.inj (Option.some.inj (show some (fR x0) = some _ from e1)))))
  obtain rfl : fR x3 = w0 := Option.some.inj (show some (fR x3) = some w0 from e4)
  clear e1 e4
  obtain ⟨a, mc0, ty0, gc0, ic0, e1, sc0, jc0, e4, e5⟩ := m2 (3, ([(1, 1)], 0), 2) (List.mem_of_getElem? (i := 0) rfl)
  obtain rfl : x3 = a := Sum.inl.inj (Option.some.inj (Sum.inr.inj (Sum.inr.inj (Option.some.inj (show some (fR x3) = some _ from e1)))))
  obtain ⟨gc0, rfl⟩ : ∃ g, gc0 = .inl g := by
    rcases gc0 with g | g
    · exact ⟨g, rfl⟩
    · exact absurd (show some (fI x2) = some (.inr (.inl (g ic0))) from e5) (fun h => by cases h)
  have sc0 : σ x3 = .inl (ty0, mc0, .inl gc0) := sc0
  have ec0 : x2 = gc0 ic0 := Sum.inl.inj (Option.some.inj (show some (fI x2) = some _ from e5))
  have kc0 : (ic0 : Int) = (1 * x1.toInt + 0) + 0 := by
    obtain ⟨z, e6, e7⟩ := e4
    obtain rfl : (1 * x1.toInt + 0) = z := Option.some.inj (show some (1 * x1.toInt + 0) = some z from e6)
    exact e7
  clear e1 e4 e5
  obtain rfl : ic0 = x1.toInt.toNat := by omega
  clear m1 m2 m3 m4
  obtain ⟨g, w, e⟩ := fMe_mk hH b0 d0 s0 t0 b3 d3
  rw [sc0] at e
  cases e
  have q0 : fB K n (p) 147 [fR x0, fI x1, fI x2] σ := by
    exact ⟨_, _, _, gc0, rfl, w, ec0.symm⟩
  exact ⟨p, fun _ => rfl, ⟨(fun q h => by cases h), fun q h => (by cases h), (fun f h => by cases h), (aAllc ⟨_, rfl, (fF_b (r := 2355) (by decide) rfl).mpr q0⟩ (fun f h => by cases h))⟩, [], List.mem_cons_self, fun f h => (by cases h)⟩
set_option maxRecDepth 8192 in
theorem rw_ruBT0 {K : Nat → Nat} {n : Nat} : aGho (fF K n) fa_T K n (fJX K n) ag_ruBT0 := by
  refine aGho_of ⟨rfl, rfl⟩ ?_
  intro p σ ρ hH hX hA hM
  have hG := aAG_of hA.1 (fun i e v he hv => (hA.2 i e v he hv).1)
  clear hA
  obtain ⟨v0, v1, v2, v3, v4, v5, rfl, g0, g1, g2, g3, g4, g5⟩ := fA_6 hG
  clear hG
  obtain ⟨x0, rfl, b0, d0⟩ := aG_int g0
  dsimp only at b0 d0
  obtain ⟨x1, rfl, b1, d1⟩ := aG_int g1
  dsimp only at b1 d1
  obtain ⟨x2, rfl, b2, d2⟩ := aG_int g2
  dsimp only at b2 d2
  obtain ⟨x3, rfl, b3, d3⟩ := aG_int g3
  dsimp only at b3 d3
  obtain ⟨x4, rfl, b4, d4⟩ := fG_ref (by decide) g4
  obtain ⟨x5, rfl, b5, d5⟩ := aG_int g5
  dsimp only at b5 d5
  obtain ⟨m1, m2, m3, m4⟩ := hM
  obtain ⟨a0, c0, fs0, w0, e1, s0, t0, e4⟩ := m1 (4, 3, 5) (List.mem_of_getElem? (i := 0) rfl)
  obtain rfl : x4 = a0 := Sum.inl.inj (Option.some.inj (Sum.inr.inj (Sum.inr.inj (Option.some.inj (show some (fR x4) = some _ from e1)))))
  obtain rfl : fI x5 = w0 := Option.some.inj (show some (fI x5) = some w0 from e4)
  clear e1 e4
  have l0 : 0 ≤ (1 * x1.toInt + (-1 * x2.toInt + (2 * x3.toInt + 0))) + 0 := by
    obtain ⟨z, e6, e7⟩ := m3 ([(1, 1), (2, -1), (3, 2)], 0) (List.mem_of_getElem? (i := 0) rfl)
    obtain rfl : (1 * x1.toInt + (-1 * x2.toInt + (2 * x3.toInt + 0))) = z := Option.some.inj (show some (1 * x1.toInt + (-1 * x2.toInt + (2 * x3.toInt + 0))) = some z from e6)
    exact e7
  have l1 : 0 ≤ (-1 * x1.toInt + (1 * x2.toInt + (-2 * x3.toInt + 0))) + 0 := by
    obtain ⟨z, e6, e7⟩ := m3 ([(1, -1), (2, 1), (3, -2)], 0) (List.mem_of_getElem? (i := 1) rfl)
    obtain rfl : (-1 * x1.toInt + (1 * x2.toInt + (-2 * x3.toInt + 0))) = z := Option.some.inj (show some (-1 * x1.toInt + (1 * x2.toInt + (-2 * x3.toInt + 0))) = some z from e6)
    exact e7
  have l2 : 0 ≤ (1 * x5.toInt + (-1 * x2.toInt + 0)) + 0 := by
    obtain ⟨z, e6, e7⟩ := m3 ([(5, 1), (2, -1)], 0) (List.mem_of_getElem? (i := 2) rfl)
    obtain rfl : (1 * x5.toInt + (-1 * x2.toInt + 0)) = z := Option.some.inj (show some (1 * x5.toInt + (-1 * x2.toInt + 0)) = some z from e6)
    exact e7
  have l3 : 0 ≤ (-1 * x5.toInt + (1 * x2.toInt + 0)) + 0 := by
    obtain ⟨z, e6, e7⟩ := m3 ([(5, -1), (2, 1)], 0) (List.mem_of_getElem? (i := 3) rfl)
    obtain rfl : (-1 * x5.toInt + (1 * x2.toInt + 0)) = z := Option.some.inj (show some (-1 * x5.toInt + (1 * x2.toInt + 0)) = some z from e6)
    exact e7
  clear m1 m2 m3 m4
  have q0 : fB K n (p) 150 [fR x4, fI x1] σ := by
    exact ⟨_, _, x5, rfl, ⟨b4, d4, _, _, s0, t0⟩, by omega⟩
  exact ⟨p, fun _ => rfl, ⟨(fun q h => by cases h), fun q h => (by cases h), (fun f h => by cases h), (aAllc ⟨_, rfl, (fF_b (r := 2402) (by decide) rfl).mpr q0⟩ (fun f h => by cases h))⟩, [], List.mem_cons_self, fun f h => (by cases h)⟩
set_option maxRecDepth 8192 in
theorem rw_ruBT1 {K : Nat → Nat} {n : Nat} : aGho (fF K n) fa_T K n (fJX K n) ag_ruBT1 := by
  refine aGho_of ⟨rfl, rfl⟩ ?_
  intro p σ ρ hH hX hA hM
  have hG := aAG_of hA.1 (fun i e v he hv => (hA.2 i e v he hv).1)
  clear hA
  obtain ⟨v0, v1, v2, v3, v4, v5, rfl, g0, g1, g2, g3, g4, g5⟩ := fA_6 hG
  clear hG
  obtain ⟨x0, rfl, b0, d0⟩ := aG_int g0
  dsimp only at b0 d0
  obtain ⟨x1, rfl, b1, d1⟩ := aG_int g1
  dsimp only at b1 d1
  obtain ⟨x2, rfl, b2, d2⟩ := aG_int g2
  dsimp only at b2 d2
  obtain ⟨x3, rfl, b3, d3⟩ := aG_int g3
  dsimp only at b3 d3
  obtain ⟨x4, rfl, b4, d4⟩ := fG_ref (by decide) g4
  obtain ⟨x5, rfl, b5, d5⟩ := aG_int g5
  dsimp only at b5 d5
  obtain ⟨m1, m2, m3, m4⟩ := hM
  obtain ⟨a0, c0, fs0, w0, e1, s0, t0, e4⟩ := m1 (4, 3, 5) (List.mem_of_getElem? (i := 0) rfl)
  obtain rfl : x4 = a0 := Sum.inl.inj (Option.some.inj (Sum.inr.inj (Sum.inr.inj (Option.some.inj (show some (fR x4) = some _ from e1)))))
  obtain rfl : fI x5 = w0 := Option.some.inj (show some (fI x5) = some w0 from e4)
  clear e1 e4
  have l0 : 0 ≤ (1 * x1.toInt + (-1 * x2.toInt + (2 * x3.toInt + 0))) + 0 := by
    obtain ⟨z, e6, e7⟩ := m3 ([(1, 1), (2, -1), (3, 2)], 0) (List.mem_of_getElem? (i := 0) rfl)
    obtain rfl : (1 * x1.toInt + (-1 * x2.toInt + (2 * x3.toInt + 0))) = z := Option.some.inj (show some (1 * x1.toInt + (-1 * x2.toInt + (2 * x3.toInt + 0))) = some z from e6)
    exact e7
  have l1 : 0 ≤ (-1 * x1.toInt + (1 * x2.toInt + (-2 * x3.toInt + 0))) + 0 := by
    obtain ⟨z, e6, e7⟩ := m3 ([(1, -1), (2, 1), (3, -2)], 0) (List.mem_of_getElem? (i := 1) rfl)
    obtain rfl : (-1 * x1.toInt + (1 * x2.toInt + (-2 * x3.toInt + 0))) = z := Option.some.inj (show some (-1 * x1.toInt + (1 * x2.toInt + (-2 * x3.toInt + 0))) = some z from e6)
    exact e7
  have l2 : 0 ≤ (1 * x5.toInt + (-2 * x2.toInt + 0)) + 0 := by
    obtain ⟨z, e6, e7⟩ := m3 ([(5, 1), (2, -2)], 0) (List.mem_of_getElem? (i := 2) rfl)
    obtain rfl : (1 * x5.toInt + (-2 * x2.toInt + 0)) = z := Option.some.inj (show some (1 * x5.toInt + (-2 * x2.toInt + 0)) = some z from e6)
    exact e7
  have l3 : 0 ≤ (-1 * x5.toInt + (2 * x2.toInt + 0)) + 1 := by
    obtain ⟨z, e6, e7⟩ := m3 ([(5, -1), (2, 2)], 1) (List.mem_of_getElem? (i := 3) rfl)
    obtain rfl : (-1 * x5.toInt + (2 * x2.toInt + 0)) = z := Option.some.inj (show some (-1 * x5.toInt + (2 * x2.toInt + 0)) = some z from e6)
    exact e7
  clear m1 m2 m3 m4
  have q0 : fB K n (p) 151 [fR x4, fI x1] σ := by
    exact ⟨_, _, x5, rfl, ⟨b4, d4, _, _, s0, t0⟩, by omega⟩
  exact ⟨p, fun _ => rfl, ⟨(fun q h => by cases h), fun q h => (by cases h), (fun f h => by cases h), (aAllc ⟨_, rfl, (fF_b (r := 2418) (by decide) rfl).mpr q0⟩ (fun f h => by cases h))⟩, [], List.mem_cons_self, fun f h => (by cases h)⟩
set_option maxRecDepth 8192 in
theorem rw_ruBT2 {K : Nat → Nat} {n : Nat} : aGho (fF K n) fa_T K n (fJX K n) ag_ruBT2 := by
  refine aGho_of ⟨rfl, rfl⟩ ?_
  intro p σ ρ hH hX hA hM
  have hG := aAG_of hA.1 (fun i e v he hv => (hA.2 i e v he hv).1)
  clear hA
  obtain ⟨v0, v1, v2, v3, v4, v5, rfl, g0, g1, g2, g3, g4, g5⟩ := fA_6 hG
  clear hG
  obtain ⟨x0, rfl, b0, d0⟩ := aG_int g0
  dsimp only at b0 d0
  obtain ⟨x1, rfl, b1, d1⟩ := aG_int g1
  dsimp only at b1 d1
  obtain ⟨x2, rfl, b2, d2⟩ := aG_int g2
  dsimp only at b2 d2
  obtain ⟨x3, rfl, b3, d3⟩ := aG_int g3
  dsimp only at b3 d3
  obtain ⟨x4, rfl, b4, d4⟩ := fG_ref (by decide) g4
  obtain ⟨x5, rfl, b5, d5⟩ := aG_int g5
  dsimp only at b5 d5
  obtain ⟨m1, m2, m3, m4⟩ := hM
  obtain ⟨a0, c0, fs0, w0, e1, s0, t0, e4⟩ := m1 (4, 3, 5) (List.mem_of_getElem? (i := 0) rfl)
  obtain rfl : x4 = a0 := Sum.inl.inj (Option.some.inj (Sum.inr.inj (Sum.inr.inj (Option.some.inj (show some (fR x4) = some _ from e1)))))
  obtain rfl : fI x5 = w0 := Option.some.inj (show some (fI x5) = some w0 from e4)
  clear e1 e4
  have l0 : 0 ≤ (1 * x1.toInt + (-1 * x2.toInt + (2 * x3.toInt + 0))) + 0 := by
    obtain ⟨z, e6, e7⟩ := m3 ([(1, 1), (2, -1), (3, 2)], 0) (List.mem_of_getElem? (i := 0) rfl)
    obtain rfl : (1 * x1.toInt + (-1 * x2.toInt + (2 * x3.toInt + 0))) = z := Option.some.inj (show some (1 * x1.toInt + (-1 * x2.toInt + (2 * x3.toInt + 0))) = some z from e6)
    exact e7
  have l1 : 0 ≤ (-1 * x1.toInt + (1 * x2.toInt + (-2 * x3.toInt + 0))) + 0 := by
    obtain ⟨z, e6, e7⟩ := m3 ([(1, -1), (2, 1), (3, -2)], 0) (List.mem_of_getElem? (i := 1) rfl)
    obtain rfl : (-1 * x1.toInt + (1 * x2.toInt + (-2 * x3.toInt + 0))) = z := Option.some.inj (show some (-1 * x1.toInt + (1 * x2.toInt + (-2 * x3.toInt + 0))) = some z from e6)
    exact e7
  have l2 : 0 ≤ (1 * x5.toInt + (-4 * x2.toInt + 0)) + 0 := by
    obtain ⟨z, e6, e7⟩ := m3 ([(5, 1), (2, -4)], 0) (List.mem_of_getElem? (i := 2) rfl)
    obtain rfl : (1 * x5.toInt + (-4 * x2.toInt + 0)) = z := Option.some.inj (show some (1 * x5.toInt + (-4 * x2.toInt + 0)) = some z from e6)
    exact e7
  have l3 : 0 ≤ (-1 * x5.toInt + (4 * x2.toInt + 0)) + 3 := by
    obtain ⟨z, e6, e7⟩ := m3 ([(5, -1), (2, 4)], 3) (List.mem_of_getElem? (i := 3) rfl)
    obtain rfl : (-1 * x5.toInt + (4 * x2.toInt + 0)) = z := Option.some.inj (show some (-1 * x5.toInt + (4 * x2.toInt + 0)) = some z from e6)
    exact e7
  clear m1 m2 m3 m4
  have q0 : fB K n (p) 152 [fR x4, fI x1] σ := by
    exact ⟨_, _, x5, rfl, ⟨b4, d4, _, _, s0, t0⟩, by omega⟩
  exact ⟨p, fun _ => rfl, ⟨(fun q h => by cases h), fun q h => (by cases h), (fun f h => by cases h), (aAllc ⟨_, rfl, (fF_b (r := 2434) (by decide) rfl).mpr q0⟩ (fun f h => by cases h))⟩, [], List.mem_cons_self, fun f h => (by cases h)⟩
set_option maxRecDepth 8192 in
theorem rw_ruBT3 {K : Nat → Nat} {n : Nat} : aGho (fF K n) fa_T K n (fJX K n) ag_ruBT3 := by
  refine aGho_of ⟨rfl, rfl⟩ ?_
  intro p σ ρ hH hX hA hM
  have hG := aAG_of hA.1 (fun i e v he hv => (hA.2 i e v he hv).1)
  clear hA
  obtain ⟨v0, v1, v2, v3, rfl, g0, g1, g2, g3⟩ := fA_4 hG
  clear hG
  obtain ⟨x0, rfl, b0, d0⟩ := aG_int g0
  dsimp only at b0 d0
  obtain ⟨x1, rfl, b1, d1⟩ := aG_int g1
  dsimp only at b1 d1
  obtain ⟨x2, rfl, b2, d2⟩ := fG_ref (by decide) g2
  obtain ⟨x3, rfl, b3, d3⟩ := aG_int g3
  dsimp only at b3 d3
  obtain ⟨m1, m2, m3, m4⟩ := hM
  obtain ⟨a0, c0, fs0, w0, e1, s0, t0, e4⟩ := m1 (2, 3, 3) (List.mem_of_getElem? (i := 0) rfl)
  obtain rfl : x2 = a0 := Sum.inl.inj (Option.some.inj (Sum.inr.inj (Sum.inr.inj (Option.some.inj (show some (fR x2) = some _ from e1)))))
  obtain rfl : fI x3 = w0 := Option.some.inj (show some (fI x3) = some w0 from e4)
  clear e1 e4
  have l0 : 0 ≤ (1 * x3.toInt + (-8 * x1.toInt + 0)) + 0 := by
    obtain ⟨z, e6, e7⟩ := m3 ([(3, 1), (1, -8)], 0) (List.mem_of_getElem? (i := 0) rfl)
    obtain rfl : (1 * x3.toInt + (-8 * x1.toInt + 0)) = z := Option.some.inj (show some (1 * x3.toInt + (-8 * x1.toInt + 0)) = some z from e6)
    exact e7
  have l1 : 0 ≤ (-1 * x3.toInt + (8 * x1.toInt + 0)) + 7 := by
    obtain ⟨z, e6, e7⟩ := m3 ([(3, -1), (1, 8)], 7) (List.mem_of_getElem? (i := 1) rfl)
    obtain rfl : (-1 * x3.toInt + (8 * x1.toInt + 0)) = z := Option.some.inj (show some (-1 * x3.toInt + (8 * x1.toInt + 0)) = some z from e6)
    exact e7
  clear m1 m2 m3 m4
  have q0 : fB K n (p) 153 [fR x2, fI x1] σ := by
    exact ⟨_, _, x3, rfl, ⟨b2, d2, _, _, s0, t0⟩, by omega⟩
  exact ⟨p, fun _ => rfl, ⟨(fun q h => by cases h), fun q h => (by cases h), (fun f h => by cases h), (aAllc ⟨_, rfl, (fF_b (r := 2450) (by decide) rfl).mpr q0⟩ (fun f h => by cases h))⟩, [], List.mem_cons_self, fun f h => (by cases h)⟩
set_option maxRecDepth 8192 in
theorem rw_ruRA0 {K : Nat → Nat} {n : Nat} : aGho (fF K n) fa_T K n (fJX K n) ag_ruRA0 := by
  refine aGho_of ⟨rfl, rfl⟩ ?_
  intro p σ ρ hH hX hA hM
  have hG := aAG_of hA.1 (fun i e v he hv => (hA.2 i e v he hv).1)
  clear hA
  obtain ⟨v0, v1, v2, rfl, g0, g1, g2⟩ := fA_3 hG
  clear hG
  obtain ⟨x0, rfl, b0, d0⟩ := aG_int g0
  dsimp only at b0 d0
  obtain ⟨x1, rfl, b1, d1⟩ := fG_ref (by decide) g1
  obtain ⟨x2, rfl, b2, d2⟩ := aG_int g2
  dsimp only at b2 d2
  obtain ⟨m1, m2, m3, m4⟩ := hM
  have f0 : fB K n p 150 [fR x1, fI x2] σ := by
    obtain ⟨w, e6, e7⟩ := m4 (2402, [1, 2]) (List.mem_of_getElem? (i := 0) rfl)
    obtain rfl : [fR x1, fI x2] = w := Option.some.inj (show some [fR x1, fI x2] = some w from e6)
    exact (fF_b (r := 2402) (by decide) rfl).mp e7
  clear m1 m2 m3 m4
  obtain ⟨b, x, R, e, o, z⟩ := f0
  cases e
  obtain ⟨g, w⟩ := fMe_ex hH b1 d1
  have q0 : fB K n (p) 138 [fR x1] σ := by
    exact ⟨_, g, R, rfl, w, o, fun h => by omega⟩
  exact ⟨p, fun _ => rfl, ⟨(fun q h => by cases h), fun q h => (by cases h), (fun f h => by cases h), (aAllc ⟨_, rfl, (fF_b (r := 2209) (by decide) rfl).mpr q0⟩ (fun f h => by cases h))⟩, [], List.mem_cons_self, fun f h => (by cases h)⟩
set_option maxRecDepth 8192 in
theorem rw_ruRB0 {K : Nat → Nat} {n : Nat} : aGho (fF K n) fa_T K n (fJX K n) ag_ruRB0 := by
  refine aGho_of ⟨rfl, rfl⟩ ?_
  intro p σ ρ hH hX hA hM
  have hG := aAG_of hA.1 (fun i e v he hv => (hA.2 i e v he hv).1)
  clear hA
  obtain ⟨v0, v1, v2, v3, v4, v5, v6, rfl, g0, g1, g2, g3, g4, g5, g6⟩ := fA_7 hG
  clear hG
  obtain ⟨x0, rfl, b0, d0⟩ := aG_int g0
  dsimp only at b0 d0
  obtain ⟨x1, rfl, b1, d1⟩ := fG_ref (by decide) g1
  obtain ⟨x2, rfl, b2, d2⟩ := aG_int g2
  dsimp only at b2 d2
  obtain ⟨x3, rfl, b3, d3⟩ := aG_int g3
  dsimp only at b3 d3
  obtain ⟨x4, rfl, b4, d4⟩ := aG_int g4
  dsimp only at b4 d4
  obtain ⟨x5, rfl, b5, d5⟩ := aG_int g5
  dsimp only at b5 d5
  obtain ⟨x6, rfl, b6, d6⟩ := aG_int g6
  dsimp only at b6 d6
  obtain ⟨m1, m2, m3, m4⟩ := hM
  obtain ⟨a0, c0, fs0, w0, e1, s0, t0, e4⟩ := m1 (1, 3, 6) (List.mem_of_getElem? (i := 0) rfl)
  obtain rfl : x1 = a0 := Sum.inl.inj (Option.some.inj (Sum.inr.inj (Sum.inr.inj (Option.some.inj (show some (fR x1) = some _ from e1)))))
  obtain rfl : fI x6 = w0 := Option.some.inj (show some (fI x6) = some w0 from e4)
  clear e1 e4
  have l0 : 0 ≤ (1 * x2.toInt + 0) + -4 := by
    obtain ⟨z, e6, e7⟩ := m3 ([(2, 1)], -4) (List.mem_of_getElem? (i := 0) rfl)
    obtain rfl : (1 * x2.toInt + 0) = z := Option.some.inj (show some (1 * x2.toInt + 0) = some z from e6)
    exact e7
  have l1 : 0 ≤ (-1 * x2.toInt + 0) + 4 := by
    obtain ⟨z, e6, e7⟩ := m3 ([(2, -1)], 4) (List.mem_of_getElem? (i := 1) rfl)
    obtain rfl : (-1 * x2.toInt + 0) = z := Option.some.inj (show some (-1 * x2.toInt + 0) = some z from e6)
    exact e7
  have l2 : 0 ≤ (1 * x3.toInt + 0) + -6 := by
    obtain ⟨z, e6, e7⟩ := m3 ([(3, 1)], -6) (List.mem_of_getElem? (i := 2) rfl)
    obtain rfl : (1 * x3.toInt + 0) = z := Option.some.inj (show some (1 * x3.toInt + 0) = some z from e6)
    exact e7
  have l3 : 0 ≤ (-1 * x3.toInt + 0) + 6 := by
    obtain ⟨z, e6, e7⟩ := m3 ([(3, -1)], 6) (List.mem_of_getElem? (i := 3) rfl)
    obtain rfl : (-1 * x3.toInt + 0) = z := Option.some.inj (show some (-1 * x3.toInt + 0) = some z from e6)
    exact e7
  have l4 : 0 ≤ (1 * x4.toInt + 0) + -7 := by
    obtain ⟨z, e6, e7⟩ := m3 ([(4, 1)], -7) (List.mem_of_getElem? (i := 4) rfl)
    obtain rfl : (1 * x4.toInt + 0) = z := Option.some.inj (show some (1 * x4.toInt + 0) = some z from e6)
    exact e7
  have l5 : 0 ≤ (-1 * x4.toInt + 0) + 7 := by
    obtain ⟨z, e6, e7⟩ := m3 ([(4, -1)], 7) (List.mem_of_getElem? (i := 5) rfl)
    obtain rfl : (-1 * x4.toInt + 0) = z := Option.some.inj (show some (-1 * x4.toInt + 0) = some z from e6)
    exact e7
  have l6 : 0 ≤ (1 * x5.toInt + 0) + -4 := by
    obtain ⟨z, e6, e7⟩ := m3 ([(5, 1)], -4) (List.mem_of_getElem? (i := 6) rfl)
    obtain rfl : (1 * x5.toInt + 0) = z := Option.some.inj (show some (1 * x5.toInt + 0) = some z from e6)
    exact e7
  have l7 : 0 ≤ (-1 * x5.toInt + 0) + 4 := by
    obtain ⟨z, e6, e7⟩ := m3 ([(5, -1)], 4) (List.mem_of_getElem? (i := 7) rfl)
    obtain rfl : (-1 * x5.toInt + 0) = z := Option.some.inj (show some (-1 * x5.toInt + 0) = some z from e6)
    exact e7
  have f0 : fB K n p 146 [fR x1, fI x2, fI x3] σ := by
    obtain ⟨w, e6, e7⟩ := m4 (2339, [1, 2, 3]) (List.mem_of_getElem? (i := 0) rfl)
    obtain rfl : [fR x1, fI x2, fI x3] = w := Option.some.inj (show some [fR x1, fI x2, fI x3] = some w from e6)
    exact (fF_b (r := 2339) (by decide) rfl).mp e7
  have f1 : fB K n p 147 [fR x1, fI x4, fI x5] σ := by
    obtain ⟨w, e6, e7⟩ := m4 (2355, [1, 4, 5]) (List.mem_of_getElem? (i := 1) rfl)
    obtain rfl : [fR x1, fI x4, fI x5] = w := Option.some.inj (show some [fR x1, fI x4, fI x5] = some w from e6)
    exact (fF_b (r := 2355) (by decide) rfl).mp e7
  clear m1 m2 m3 m4
  obtain ⟨b8, q1, v1, g1, e1, w1, z1⟩ := f0
  cases e1
  obtain ⟨b9, q2, v2, g2, e2, w2, z2⟩ := f1
  cases e2
  obtain rfl := fMe_u w1 w2
  have q0 : fB K n (p) 138 [fR x1] σ := by
    rw [show x2.toInt.toNat = 4 by omega] at z1
    rw [show x4.toInt.toNat = 7 by omega] at z2
    exact ⟨_, g1, x6, rfl, w1, ⟨b1, d1, _, _, s0, t0⟩, fun _ => ⟨by rw [z1]; omega, by rw [z2]; omega⟩⟩
  exact ⟨p, fun _ => rfl, ⟨(fun q h => by cases h), fun q h => (by cases h), (fun f h => by cases h), (aAllc ⟨_, rfl, (fF_b (r := 2209) (by decide) rfl).mpr q0⟩ (fun f h => by cases h))⟩, [], List.mem_cons_self, fun f h => (by cases h)⟩
set_option maxRecDepth 8192 in
theorem rw_ruRA1 {K : Nat → Nat} {n : Nat} : aGho (fF K n) fa_T K n (fJX K n) ag_ruRA1 := by
  refine aGho_of ⟨rfl, rfl⟩ ?_
  intro p σ ρ hH hX hA hM
  have hG := aAG_of hA.1 (fun i e v he hv => (hA.2 i e v he hv).1)
  clear hA
  obtain ⟨v0, v1, v2, rfl, g0, g1, g2⟩ := fA_3 hG
  clear hG
  obtain ⟨x0, rfl, b0, d0⟩ := aG_int g0
  dsimp only at b0 d0
  obtain ⟨x1, rfl, b1, d1⟩ := fG_ref (by decide) g1
  obtain ⟨x2, rfl, b2, d2⟩ := aG_int g2
  dsimp only at b2 d2
  obtain ⟨m1, m2, m3, m4⟩ := hM
  have f0 : fB K n p 151 [fR x1, fI x2] σ := by
    obtain ⟨w, e6, e7⟩ := m4 (2418, [1, 2]) (List.mem_of_getElem? (i := 0) rfl)
    obtain rfl : [fR x1, fI x2] = w := Option.some.inj (show some [fR x1, fI x2] = some w from e6)
    exact (fF_b (r := 2418) (by decide) rfl).mp e7
  clear m1 m2 m3 m4
  obtain ⟨b, x, R, e, o, z⟩ := f0
  cases e
  obtain ⟨g, w⟩ := fMe_ex hH b1 d1
  have q0 : fB K n (p) 139 [fR x1] σ := by
    exact ⟨_, g, R, rfl, w, o, fun h => by omega⟩
  exact ⟨p, fun _ => rfl, ⟨(fun q h => by cases h), fun q h => (by cases h), (fun f h => by cases h), (aAllc ⟨_, rfl, (fF_b (r := 2225) (by decide) rfl).mpr q0⟩ (fun f h => by cases h))⟩, [], List.mem_cons_self, fun f h => (by cases h)⟩
set_option maxRecDepth 8192 in
theorem rw_ruRB1 {K : Nat → Nat} {n : Nat} : aGho (fF K n) fa_T K n (fJX K n) ag_ruRB1 := by
  refine aGho_of ⟨rfl, rfl⟩ ?_
  intro p σ ρ hH hX hA hM
  have hG := aAG_of hA.1 (fun i e v he hv => (hA.2 i e v he hv).1)
  clear hA
  obtain ⟨v0, v1, v2, v3, v4, v5, v6, rfl, g0, g1, g2, g3, g4, g5, g6⟩ := fA_7 hG
  clear hG
  obtain ⟨x0, rfl, b0, d0⟩ := aG_int g0
  dsimp only at b0 d0
  obtain ⟨x1, rfl, b1, d1⟩ := fG_ref (by decide) g1
  obtain ⟨x2, rfl, b2, d2⟩ := aG_int g2
  dsimp only at b2 d2
  obtain ⟨x3, rfl, b3, d3⟩ := aG_int g3
  dsimp only at b3 d3
  obtain ⟨x4, rfl, b4, d4⟩ := aG_int g4
  dsimp only at b4 d4
  obtain ⟨x5, rfl, b5, d5⟩ := aG_int g5
  dsimp only at b5 d5
  obtain ⟨x6, rfl, b6, d6⟩ := aG_int g6
  dsimp only at b6 d6
  obtain ⟨m1, m2, m3, m4⟩ := hM
  obtain ⟨a0, c0, fs0, w0, e1, s0, t0, e4⟩ := m1 (1, 3, 6) (List.mem_of_getElem? (i := 0) rfl)
  obtain rfl : x1 = a0 := Sum.inl.inj (Option.some.inj (Sum.inr.inj (Sum.inr.inj (Option.some.inj (show some (fR x1) = some _ from e1)))))
  obtain rfl : fI x6 = w0 := Option.some.inj (show some (fI x6) = some w0 from e4)
  clear e1 e4
  have l0 : 0 ≤ (1 * x2.toInt + 0) + -4 := by
    obtain ⟨z, e6, e7⟩ := m3 ([(2, 1)], -4) (List.mem_of_getElem? (i := 0) rfl)
    obtain rfl : (1 * x2.toInt + 0) = z := Option.some.inj (show some (1 * x2.toInt + 0) = some z from e6)
    exact e7
  have l1 : 0 ≤ (-1 * x2.toInt + 0) + 4 := by
    obtain ⟨z, e6, e7⟩ := m3 ([(2, -1)], 4) (List.mem_of_getElem? (i := 1) rfl)
    obtain rfl : (-1 * x2.toInt + 0) = z := Option.some.inj (show some (-1 * x2.toInt + 0) = some z from e6)
    exact e7
  have l2 : 0 ≤ (1 * x3.toInt + 0) + -6 := by
    obtain ⟨z, e6, e7⟩ := m3 ([(3, 1)], -6) (List.mem_of_getElem? (i := 2) rfl)
    obtain rfl : (1 * x3.toInt + 0) = z := Option.some.inj (show some (1 * x3.toInt + 0) = some z from e6)
    exact e7
  have l3 : 0 ≤ (-1 * x3.toInt + 0) + 6 := by
    obtain ⟨z, e6, e7⟩ := m3 ([(3, -1)], 6) (List.mem_of_getElem? (i := 3) rfl)
    obtain rfl : (-1 * x3.toInt + 0) = z := Option.some.inj (show some (-1 * x3.toInt + 0) = some z from e6)
    exact e7
  have l4 : 0 ≤ (1 * x4.toInt + 0) + 0 := by
    obtain ⟨z, e6, e7⟩ := m3 ([(4, 1)], 0) (List.mem_of_getElem? (i := 4) rfl)
    obtain rfl : (1 * x4.toInt + 0) = z := Option.some.inj (show some (1 * x4.toInt + 0) = some z from e6)
    exact e7
  have l5 : 0 ≤ (-1 * x4.toInt + 0) + 0 := by
    obtain ⟨z, e6, e7⟩ := m3 ([(4, -1)], 0) (List.mem_of_getElem? (i := 5) rfl)
    obtain rfl : (-1 * x4.toInt + 0) = z := Option.some.inj (show some (-1 * x4.toInt + 0) = some z from e6)
    exact e7
  have l6 : 0 ≤ (1 * x5.toInt + 0) + -4 := by
    obtain ⟨z, e6, e7⟩ := m3 ([(5, 1)], -4) (List.mem_of_getElem? (i := 6) rfl)
    obtain rfl : (1 * x5.toInt + 0) = z := Option.some.inj (show some (1 * x5.toInt + 0) = some z from e6)
    exact e7
  have l7 : 0 ≤ (-1 * x5.toInt + 0) + 4 := by
    obtain ⟨z, e6, e7⟩ := m3 ([(5, -1)], 4) (List.mem_of_getElem? (i := 7) rfl)
    obtain rfl : (-1 * x5.toInt + 0) = z := Option.some.inj (show some (-1 * x5.toInt + 0) = some z from e6)
    exact e7
  have f0 : fB K n p 146 [fR x1, fI x2, fI x3] σ := by
    obtain ⟨w, e6, e7⟩ := m4 (2339, [1, 2, 3]) (List.mem_of_getElem? (i := 0) rfl)
    obtain rfl : [fR x1, fI x2, fI x3] = w := Option.some.inj (show some [fR x1, fI x2, fI x3] = some w from e6)
    exact (fF_b (r := 2339) (by decide) rfl).mp e7
  have f1 : fB K n p 147 [fR x1, fI x4, fI x5] σ := by
    obtain ⟨w, e6, e7⟩ := m4 (2355, [1, 4, 5]) (List.mem_of_getElem? (i := 1) rfl)
    obtain rfl : [fR x1, fI x4, fI x5] = w := Option.some.inj (show some [fR x1, fI x4, fI x5] = some w from e6)
    exact (fF_b (r := 2355) (by decide) rfl).mp e7
  clear m1 m2 m3 m4
  obtain ⟨b8, q1, v1, g1, e1, w1, z1⟩ := f0
  cases e1
  obtain ⟨b9, q2, v2, g2, e2, w2, z2⟩ := f1
  cases e2
  obtain rfl := fMe_u w1 w2
  have q0 : fB K n (p) 139 [fR x1] σ := by
    rw [show x2.toInt.toNat = 4 by omega] at z1
    rw [show x4.toInt.toNat = 0 by omega] at z2
    exact ⟨_, g1, x6, rfl, w1, ⟨b1, d1, _, _, s0, t0⟩, fun _ => ⟨by rw [z1]; omega, by rw [z2]; omega⟩⟩
  exact ⟨p, fun _ => rfl, ⟨(fun q h => by cases h), fun q h => (by cases h), (fun f h => by cases h), (aAllc ⟨_, rfl, (fF_b (r := 2225) (by decide) rfl).mpr q0⟩ (fun f h => by cases h))⟩, [], List.mem_cons_self, fun f h => (by cases h)⟩
set_option maxRecDepth 8192 in
theorem rw_ruRA2 {K : Nat → Nat} {n : Nat} : aGho (fF K n) fa_T K n (fJX K n) ag_ruRA2 := by
  refine aGho_of ⟨rfl, rfl⟩ ?_
  intro p σ ρ hH hX hA hM
  have hG := aAG_of hA.1 (fun i e v he hv => (hA.2 i e v he hv).1)
  clear hA
  obtain ⟨v0, v1, v2, rfl, g0, g1, g2⟩ := fA_3 hG
  clear hG
  obtain ⟨x0, rfl, b0, d0⟩ := aG_int g0
  dsimp only at b0 d0
  obtain ⟨x1, rfl, b1, d1⟩ := fG_ref (by decide) g1
  obtain ⟨x2, rfl, b2, d2⟩ := aG_int g2
  dsimp only at b2 d2
  obtain ⟨m1, m2, m3, m4⟩ := hM
  have f0 : fB K n p 152 [fR x1, fI x2] σ := by
    obtain ⟨w, e6, e7⟩ := m4 (2434, [1, 2]) (List.mem_of_getElem? (i := 0) rfl)
    obtain rfl : [fR x1, fI x2] = w := Option.some.inj (show some [fR x1, fI x2] = some w from e6)
    exact (fF_b (r := 2434) (by decide) rfl).mp e7
  clear m1 m2 m3 m4
  obtain ⟨b, x, R, e, o, z⟩ := f0
  cases e
  obtain ⟨g, w⟩ := fMe_ex hH b1 d1
  have q0 : fB K n (p) 140 [fR x1] σ := by
    exact ⟨_, g, R, rfl, w, o, fun h => by omega⟩
  exact ⟨p, fun _ => rfl, ⟨(fun q h => by cases h), fun q h => (by cases h), (fun f h => by cases h), (aAllc ⟨_, rfl, (fF_b (r := 2241) (by decide) rfl).mpr q0⟩ (fun f h => by cases h))⟩, [], List.mem_cons_self, fun f h => (by cases h)⟩
set_option maxRecDepth 8192 in
theorem rw_ruRB2 {K : Nat → Nat} {n : Nat} : aGho (fF K n) fa_T K n (fJX K n) ag_ruRB2 := by
  refine aGho_of ⟨rfl, rfl⟩ ?_
  intro p σ ρ hH hX hA hM
  have hG := aAG_of hA.1 (fun i e v he hv => (hA.2 i e v he hv).1)
  clear hA
  obtain ⟨v0, v1, v2, v3, v4, v5, v6, rfl, g0, g1, g2, g3, g4, g5, g6⟩ := fA_7 hG
  clear hG
  obtain ⟨x0, rfl, b0, d0⟩ := aG_int g0
  dsimp only at b0 d0
  obtain ⟨x1, rfl, b1, d1⟩ := fG_ref (by decide) g1
  obtain ⟨x2, rfl, b2, d2⟩ := aG_int g2
  dsimp only at b2 d2
  obtain ⟨x3, rfl, b3, d3⟩ := aG_int g3
  dsimp only at b3 d3
  obtain ⟨x4, rfl, b4, d4⟩ := aG_int g4
  dsimp only at b4 d4
  obtain ⟨x5, rfl, b5, d5⟩ := aG_int g5
  dsimp only at b5 d5
  obtain ⟨x6, rfl, b6, d6⟩ := aG_int g6
  dsimp only at b6 d6
  obtain ⟨m1, m2, m3, m4⟩ := hM
  obtain ⟨a0, c0, fs0, w0, e1, s0, t0, e4⟩ := m1 (1, 3, 6) (List.mem_of_getElem? (i := 0) rfl)
  obtain rfl : x1 = a0 := Sum.inl.inj (Option.some.inj (Sum.inr.inj (Sum.inr.inj (Option.some.inj (show some (fR x1) = some _ from e1)))))
  obtain rfl : fI x6 = w0 := Option.some.inj (show some (fI x6) = some w0 from e4)
  clear e1 e4
  have l0 : 0 ≤ (1 * x2.toInt + 0) + -60 := by
    obtain ⟨z, e6, e7⟩ := m3 ([(2, 1)], -60) (List.mem_of_getElem? (i := 0) rfl)
    obtain rfl : (1 * x2.toInt + 0) = z := Option.some.inj (show some (1 * x2.toInt + 0) = some z from e6)
    exact e7
  have l1 : 0 ≤ (-1 * x2.toInt + 0) + 60 := by
    obtain ⟨z, e6, e7⟩ := m3 ([(2, -1)], 60) (List.mem_of_getElem? (i := 1) rfl)
    obtain rfl : (-1 * x2.toInt + 0) = z := Option.some.inj (show some (-1 * x2.toInt + 0) = some z from e6)
    exact e7
  have l2 : 0 ≤ (1 * x3.toInt + 0) + -14 := by
    obtain ⟨z, e6, e7⟩ := m3 ([(3, 1)], -14) (List.mem_of_getElem? (i := 2) rfl)
    obtain rfl : (1 * x3.toInt + 0) = z := Option.some.inj (show some (1 * x3.toInt + 0) = some z from e6)
    exact e7
  have l3 : 0 ≤ (-1 * x3.toInt + 0) + 14 := by
    obtain ⟨z, e6, e7⟩ := m3 ([(3, -1)], 14) (List.mem_of_getElem? (i := 3) rfl)
    obtain rfl : (-1 * x3.toInt + 0) = z := Option.some.inj (show some (-1 * x3.toInt + 0) = some z from e6)
    exact e7
  have l4 : 0 ≤ (1 * x4.toInt + 0) + -63 := by
    obtain ⟨z, e6, e7⟩ := m3 ([(4, 1)], -63) (List.mem_of_getElem? (i := 4) rfl)
    obtain rfl : (1 * x4.toInt + 0) = z := Option.some.inj (show some (1 * x4.toInt + 0) = some z from e6)
    exact e7
  have l5 : 0 ≤ (-1 * x4.toInt + 0) + 63 := by
    obtain ⟨z, e6, e7⟩ := m3 ([(4, -1)], 63) (List.mem_of_getElem? (i := 5) rfl)
    obtain rfl : (-1 * x4.toInt + 0) = z := Option.some.inj (show some (-1 * x4.toInt + 0) = some z from e6)
    exact e7
  have l6 : 0 ≤ (1 * x5.toInt + 0) + -12 := by
    obtain ⟨z, e6, e7⟩ := m3 ([(5, 1)], -12) (List.mem_of_getElem? (i := 6) rfl)
    obtain rfl : (1 * x5.toInt + 0) = z := Option.some.inj (show some (1 * x5.toInt + 0) = some z from e6)
    exact e7
  have l7 : 0 ≤ (-1 * x5.toInt + 0) + 12 := by
    obtain ⟨z, e6, e7⟩ := m3 ([(5, -1)], 12) (List.mem_of_getElem? (i := 7) rfl)
    obtain rfl : (-1 * x5.toInt + 0) = z := Option.some.inj (show some (-1 * x5.toInt + 0) = some z from e6)
    exact e7
  have f0 : fB K n p 146 [fR x1, fI x2, fI x3] σ := by
    obtain ⟨w, e6, e7⟩ := m4 (2339, [1, 2, 3]) (List.mem_of_getElem? (i := 0) rfl)
    obtain rfl : [fR x1, fI x2, fI x3] = w := Option.some.inj (show some [fR x1, fI x2, fI x3] = some w from e6)
    exact (fF_b (r := 2339) (by decide) rfl).mp e7
  have f1 : fB K n p 147 [fR x1, fI x4, fI x5] σ := by
    obtain ⟨w, e6, e7⟩ := m4 (2355, [1, 4, 5]) (List.mem_of_getElem? (i := 1) rfl)
    obtain rfl : [fR x1, fI x4, fI x5] = w := Option.some.inj (show some [fR x1, fI x4, fI x5] = some w from e6)
    exact (fF_b (r := 2355) (by decide) rfl).mp e7
  clear m1 m2 m3 m4
  obtain ⟨b8, q1, v1, g1, e1, w1, z1⟩ := f0
  cases e1
  obtain ⟨b9, q2, v2, g2, e2, w2, z2⟩ := f1
  cases e2
  obtain rfl := fMe_u w1 w2
  have q0 : fB K n (p) 140 [fR x1] σ := by
    rw [show x2.toInt.toNat = 60 by omega] at z1
    rw [show x4.toInt.toNat = 63 by omega] at z2
    exact ⟨_, g1, x6, rfl, w1, ⟨b1, d1, _, _, s0, t0⟩, fun _ => ⟨by rw [z1]; omega, by rw [z2]; omega⟩⟩
  exact ⟨p, fun _ => rfl, ⟨(fun q h => by cases h), fun q h => (by cases h), (fun f h => by cases h), (aAllc ⟨_, rfl, (fF_b (r := 2241) (by decide) rfl).mpr q0⟩ (fun f h => by cases h))⟩, [], List.mem_cons_self, fun f h => (by cases h)⟩
set_option maxRecDepth 8192 in
theorem rw_ruRA3 {K : Nat → Nat} {n : Nat} : aGho (fF K n) fa_T K n (fJX K n) ag_ruRA3 := by
  refine aGho_of ⟨rfl, rfl⟩ ?_
  intro p σ ρ hH hX hA hM
  have hG := aAG_of hA.1 (fun i e v he hv => (hA.2 i e v he hv).1)
  clear hA
  obtain ⟨v0, v1, v2, rfl, g0, g1, g2⟩ := fA_3 hG
  clear hG
  obtain ⟨x0, rfl, b0, d0⟩ := aG_int g0
  dsimp only at b0 d0
  obtain ⟨x1, rfl, b1, d1⟩ := fG_ref (by decide) g1
  obtain ⟨x2, rfl, b2, d2⟩ := aG_int g2
  dsimp only at b2 d2
  obtain ⟨m1, m2, m3, m4⟩ := hM
  have f0 : fB K n p 153 [fR x1, fI x2] σ := by
    obtain ⟨w, e6, e7⟩ := m4 (2450, [1, 2]) (List.mem_of_getElem? (i := 0) rfl)
    obtain rfl : [fR x1, fI x2] = w := Option.some.inj (show some [fR x1, fI x2] = some w from e6)
    exact (fF_b (r := 2450) (by decide) rfl).mp e7
  clear m1 m2 m3 m4
  obtain ⟨b, x, R, e, o, z⟩ := f0
  cases e
  obtain ⟨g, w⟩ := fMe_ex hH b1 d1
  have q0 : fB K n (p) 141 [fR x1] σ := by
    exact ⟨_, g, R, rfl, w, o, fun h => by omega⟩
  exact ⟨p, fun _ => rfl, ⟨(fun q h => by cases h), fun q h => (by cases h), (fun f h => by cases h), (aAllc ⟨_, rfl, (fF_b (r := 2257) (by decide) rfl).mpr q0⟩ (fun f h => by cases h))⟩, [], List.mem_cons_self, fun f h => (by cases h)⟩
set_option maxRecDepth 8192 in
theorem rw_ruRB3 {K : Nat → Nat} {n : Nat} : aGho (fF K n) fa_T K n (fJX K n) ag_ruRB3 := by
  refine aGho_of ⟨rfl, rfl⟩ ?_
  intro p σ ρ hH hX hA hM
  have hG := aAG_of hA.1 (fun i e v he hv => (hA.2 i e v he hv).1)
  clear hA
  obtain ⟨v0, v1, v2, v3, v4, v5, v6, rfl, g0, g1, g2, g3, g4, g5, g6⟩ := fA_7 hG
  clear hG
  obtain ⟨x0, rfl, b0, d0⟩ := aG_int g0
  dsimp only at b0 d0
  obtain ⟨x1, rfl, b1, d1⟩ := fG_ref (by decide) g1
  obtain ⟨x2, rfl, b2, d2⟩ := aG_int g2
  dsimp only at b2 d2
  obtain ⟨x3, rfl, b3, d3⟩ := aG_int g3
  dsimp only at b3 d3
  obtain ⟨x4, rfl, b4, d4⟩ := aG_int g4
  dsimp only at b4 d4
  obtain ⟨x5, rfl, b5, d5⟩ := aG_int g5
  dsimp only at b5 d5
  obtain ⟨x6, rfl, b6, d6⟩ := aG_int g6
  dsimp only at b6 d6
  obtain ⟨m1, m2, m3, m4⟩ := hM
  obtain ⟨a0, c0, fs0, w0, e1, s0, t0, e4⟩ := m1 (1, 3, 6) (List.mem_of_getElem? (i := 0) rfl)
  obtain rfl : x1 = a0 := Sum.inl.inj (Option.some.inj (Sum.inr.inj (Sum.inr.inj (Option.some.inj (show some (fR x1) = some _ from e1)))))
  obtain rfl : fI x6 = w0 := Option.some.inj (show some (fI x6) = some w0 from e4)
  clear e1 e4
  have l0 : 0 ≤ (1 * x2.toInt + 0) + -60 := by
    obtain ⟨z, e6, e7⟩ := m3 ([(2, 1)], -60) (List.mem_of_getElem? (i := 0) rfl)
    obtain rfl : (1 * x2.toInt + 0) = z := Option.some.inj (show some (1 * x2.toInt + 0) = some z from e6)
    exact e7
  have l1 : 0 ≤ (-1 * x2.toInt + 0) + 60 := by
    obtain ⟨z, e6, e7⟩ := m3 ([(2, -1)], 60) (List.mem_of_getElem? (i := 1) rfl)
    obtain rfl : (-1 * x2.toInt + 0) = z := Option.some.inj (show some (-1 * x2.toInt + 0) = some z from e6)
    exact e7
  have l2 : 0 ≤ (1 * x3.toInt + 0) + -14 := by
    obtain ⟨z, e6, e7⟩ := m3 ([(3, 1)], -14) (List.mem_of_getElem? (i := 2) rfl)
    obtain rfl : (1 * x3.toInt + 0) = z := Option.some.inj (show some (1 * x3.toInt + 0) = some z from e6)
    exact e7
  have l3 : 0 ≤ (-1 * x3.toInt + 0) + 14 := by
    obtain ⟨z, e6, e7⟩ := m3 ([(3, -1)], 14) (List.mem_of_getElem? (i := 3) rfl)
    obtain rfl : (-1 * x3.toInt + 0) = z := Option.some.inj (show some (-1 * x3.toInt + 0) = some z from e6)
    exact e7
  have l4 : 0 ≤ (1 * x4.toInt + 0) + -56 := by
    obtain ⟨z, e6, e7⟩ := m3 ([(4, 1)], -56) (List.mem_of_getElem? (i := 4) rfl)
    obtain rfl : (1 * x4.toInt + 0) = z := Option.some.inj (show some (1 * x4.toInt + 0) = some z from e6)
    exact e7
  have l5 : 0 ≤ (-1 * x4.toInt + 0) + 56 := by
    obtain ⟨z, e6, e7⟩ := m3 ([(4, -1)], 56) (List.mem_of_getElem? (i := 5) rfl)
    obtain rfl : (-1 * x4.toInt + 0) = z := Option.some.inj (show some (-1 * x4.toInt + 0) = some z from e6)
    exact e7
  have l6 : 0 ≤ (1 * x5.toInt + 0) + -12 := by
    obtain ⟨z, e6, e7⟩ := m3 ([(5, 1)], -12) (List.mem_of_getElem? (i := 6) rfl)
    obtain rfl : (1 * x5.toInt + 0) = z := Option.some.inj (show some (1 * x5.toInt + 0) = some z from e6)
    exact e7
  have l7 : 0 ≤ (-1 * x5.toInt + 0) + 12 := by
    obtain ⟨z, e6, e7⟩ := m3 ([(5, -1)], 12) (List.mem_of_getElem? (i := 7) rfl)
    obtain rfl : (-1 * x5.toInt + 0) = z := Option.some.inj (show some (-1 * x5.toInt + 0) = some z from e6)
    exact e7
  have f0 : fB K n p 146 [fR x1, fI x2, fI x3] σ := by
    obtain ⟨w, e6, e7⟩ := m4 (2339, [1, 2, 3]) (List.mem_of_getElem? (i := 0) rfl)
    obtain rfl : [fR x1, fI x2, fI x3] = w := Option.some.inj (show some [fR x1, fI x2, fI x3] = some w from e6)
    exact (fF_b (r := 2339) (by decide) rfl).mp e7
  have f1 : fB K n p 147 [fR x1, fI x4, fI x5] σ := by
    obtain ⟨w, e6, e7⟩ := m4 (2355, [1, 4, 5]) (List.mem_of_getElem? (i := 1) rfl)
    obtain rfl : [fR x1, fI x4, fI x5] = w := Option.some.inj (show some [fR x1, fI x4, fI x5] = some w from e6)
    exact (fF_b (r := 2355) (by decide) rfl).mp e7
  clear m1 m2 m3 m4
  obtain ⟨b8, q1, v1, g1, e1, w1, z1⟩ := f0
  cases e1
  obtain ⟨b9, q2, v2, g2, e2, w2, z2⟩ := f1
  cases e2
  obtain rfl := fMe_u w1 w2
  have q0 : fB K n (p) 141 [fR x1] σ := by
    rw [show x2.toInt.toNat = 60 by omega] at z1
    rw [show x4.toInt.toNat = 56 by omega] at z2
    exact ⟨_, g1, x6, rfl, w1, ⟨b1, d1, _, _, s0, t0⟩, fun _ => ⟨by rw [z1]; omega, by rw [z2]; omega⟩⟩
  exact ⟨p, fun _ => rfl, ⟨(fun q h => by cases h), fun q h => (by cases h), (fun f h => by cases h), (aAllc ⟨_, rfl, (fF_b (r := 2257) (by decide) rfl).mpr q0⟩ (fun f h => by cases h))⟩, [], List.mem_cons_self, fun f h => (by cases h)⟩
set_option maxRecDepth 8192 in
theorem rw_ruRGT {K : Nat → Nat} {n : Nat} : aGho (fF K n) fa_T K n (fJX K n) ag_ruRGT := by
  refine aGho_of ⟨rfl, rfl⟩ ?_
  intro p σ ρ hH hX hA hM
  have hG := aAG_of hA.1 (fun i e v he hv => (hA.2 i e v he hv).1)
  clear hA
  obtain ⟨v0, v1, rfl, g0, g1⟩ := fA_2 hG
  clear hG
  obtain ⟨x0, rfl, b0, d0⟩ := fG_ref (by decide) g0
  obtain ⟨x1, rfl, b1, d1⟩ := aG_int g1
  dsimp only at b1 d1
  obtain ⟨m1, m2, m3, m4⟩ := hM
  have f0 : fB K n p 138 [fR x0] σ := by
    obtain ⟨w, e6, e7⟩ := m4 (2209, [0]) (List.mem_of_getElem? (i := 0) rfl)
    obtain rfl : [fR x0] = w := Option.some.inj (show some [fR x0] = some w from e6)
    exact (fF_b (r := 2209) (by decide) rfl).mp e7
  have f1 : fB K n p 139 [fR x0] σ := by
    obtain ⟨w, e6, e7⟩ := m4 (2225, [0]) (List.mem_of_getElem? (i := 1) rfl)
    obtain rfl : [fR x0] = w := Option.some.inj (show some [fR x0] = some w from e6)
    exact (fF_b (r := 2225) (by decide) rfl).mp e7
  have f2 : fB K n p 140 [fR x0] σ := by
    obtain ⟨w, e6, e7⟩ := m4 (2241, [0]) (List.mem_of_getElem? (i := 2) rfl)
    obtain rfl : [fR x0] = w := Option.some.inj (show some [fR x0] = some w from e6)
    exact (fF_b (r := 2241) (by decide) rfl).mp e7
  have f3 : fB K n p 141 [fR x0] σ := by
    obtain ⟨w, e6, e7⟩ := m4 (2257, [0]) (List.mem_of_getElem? (i := 3) rfl)
    obtain rfl : [fR x0] = w := Option.some.inj (show some [fR x0] = some w from e6)
    exact (fF_b (r := 2257) (by decide) rfl).mp e7
  clear m1 m2 m3 m4
  obtain ⟨b9, g20, R0, e20, w20, o20, z20⟩ := f0
  cases e20
  obtain ⟨b10, g21, R1, e21, w21, o21, z21⟩ := f1
  cases e21
  obtain ⟨b11, g22, R2, e22, w22, o22, z22⟩ := f2
  cases e22
  obtain ⟨b12, g23, R3, e23, w23, o23, z23⟩ := f3
  cases e23
  obtain rfl := fMe_u w21 w20
  obtain rfl := fOb_v o20 o21
  obtain rfl := fMe_u w22 w20
  obtain rfl := fOb_v o20 o22
  obtain rfl := fMe_u w23 w20
  obtain rfl := fOb_v o20 o23
  have q0 : fB K n (p) 148 [fR x0, fI x1] σ := by
    exact ⟨_, _, rfl, Or.inr ⟨_, _, w20, o20, z20, z21, z22, z23⟩⟩
  exact ⟨p, fun _ => rfl, ⟨(fun q h => by cases h), fun q h => (by cases h), (fun f h => by cases h), (aAllc ⟨_, rfl, (fF_b (r := 2370) (by decide) rfl).mpr q0⟩ (fun f h => by cases h))⟩, [], List.mem_cons_self, fun f h => (by cases h)⟩
set_option maxRecDepth 8192 in
theorem rw_ruRG0 {K : Nat → Nat} {n : Nat} : aGho (fF K n) fa_T K n (fJX K n) ag_ruRG0 := by
  refine aGho_of ⟨rfl, rfl⟩ ?_
  intro p σ ρ hH hX hA hM
  have hG := aAG_of hA.1 (fun i e v he hv => (hA.2 i e v he hv).1)
  clear hA
  obtain ⟨v0, v1, rfl, g0, g1⟩ := fA_2 hG
  clear hG
  obtain ⟨x0, rfl, b0, d0⟩ := fG_ref (by decide) g0
  obtain ⟨x1, rfl, b1, d1⟩ := aG_int g1
  dsimp only at b1 d1
  obtain ⟨m1, m2, m3, m4⟩ := hM
  clear m1 m2 m3 m4
  have q0 : fB K n (p) 148 [fR x0, fI x1] σ := by
    exact ⟨_, _, rfl, Or.inl (by omega)⟩
  exact ⟨p, fun _ => rfl, ⟨(fun q h => by cases h), fun q h => (by cases h), (fun f h => by cases h), (aAllc ⟨_, rfl, (fF_b (r := 2370) (by decide) rfl).mpr q0⟩ (fun f h => by cases h))⟩, [], List.mem_cons_self, fun f h => (by cases h)⟩
set_option maxRecDepth 8192 in
theorem rw_ruRG1 {K : Nat → Nat} {n : Nat} : aGho (fF K n) fa_T K n (fJX K n) ag_ruRG1 := by
  refine aGho_of ⟨rfl, rfl⟩ ?_
  intro p σ ρ hH hX hA hM
  have hG := aAG_of hA.1 (fun i e v he hv => (hA.2 i e v he hv).1)
  clear hA
  obtain ⟨v0, v1, rfl, g0, g1⟩ := fA_2 hG
  clear hG
  obtain ⟨x0, rfl, b0, d0⟩ := fG_ref (by decide) g0
  obtain ⟨x1, rfl, b1, d1⟩ := aG_int g1
  dsimp only at b1 d1
  obtain ⟨m1, m2, m3, m4⟩ := hM
  have f0 : fB K n p 148 [fR x0, fI x1] σ := by
    obtain ⟨w, e6, e7⟩ := m4 (2370, [0, 1]) (List.mem_of_getElem? (i := 0) rfl)
    obtain rfl : [fR x0, fI x1] = w := Option.some.inj (show some [fR x0, fI x1] = some w from e6)
    exact (fF_b (r := 2370) (by decide) rfl).mp e7
  clear m1 m2 m3 m4
  obtain ⟨b, x, e, h⟩ := f0
  cases e
  have q0 : fB K n (p) 142 [fR x0] σ := by
    exact ⟨_, rfl, h.resolve_left (by omega)⟩
  exact ⟨p, fun _ => rfl, ⟨(fun q h => by cases h), fun q h => (by cases h), (fun f h => by cases h), (aAllc ⟨_, rfl, (fF_b (r := 2273) (by decide) rfl).mpr q0⟩ (fun f h => by cases h))⟩, [], List.mem_cons_self, fun f h => (by cases h)⟩
set_option maxRecDepth 8192 in
theorem rw_ruPS0 {K : Nat → Nat} {n : Nat} : aGho (fF K n) fa_T K n (fJX K n) ag_ruPS0 := by
  refine aGho_of ⟨rfl, rfl⟩ ?_
  intro p σ ρ hH hX hA hM
  have hG := aAG_of hA.1 (fun i e v he hv => (hA.2 i e v he hv).1)
  clear hA
  obtain ⟨v0, v1, v2, v3, v4, v5, rfl, g0, g1, g2, g3, g4, g5⟩ := fA_6 hG
  clear hG
  obtain ⟨x0, rfl, b0, d0⟩ := fG_ref (by decide) g0
  obtain ⟨x1, rfl, b1, d1⟩ := aG_int g1
  dsimp only at b1 d1
  obtain ⟨x2, rfl, b2, d2⟩ := aG_int g2
  dsimp only at b2 d2
  obtain ⟨x3, rfl, b3, d3⟩ := aG_int g3
  dsimp only at b3 d3
  obtain ⟨x4, rfl, b4, d4⟩ := aG_int g4
  dsimp only at b4 d4
  obtain ⟨x5, rfl, b5, d5⟩ := aG_int g5
  dsimp only at b5 d5
  obtain ⟨m1, m2, m3, m4⟩ := hM
  obtain ⟨a0, c0, fs0, w0, e1, s0, t0, e4⟩ := m1 (0, 2, 1) (List.mem_of_getElem? (i := 0) rfl)
  obtain rfl : x0 = a0 := Sum.inl.inj (Option.some.inj (Sum.inr.inj (Sum.inr.inj (Option.some.inj (show some (fR x0) = some _ from e1)))))
  obtain rfl : fI x1 = w0 := Option.some.inj (show some (fI x1) = some w0 from e4)
  clear e1 e4
  obtain ⟨a1, c1, fs1, w1, e1, s1, t1, e4⟩ := m1 (0, 4, 2) (List.mem_of_getElem? (i := 1) rfl)
  obtain rfl : x0 = a1 := Sum.inl.inj (Option.some.inj (Sum.inr.inj (Sum.inr.inj (Option.some.inj (show some (fR x0) = some _ from e1)))))
  obtain rfl : fI x2 = w1 := Option.some.inj (show some (fI x2) = some w1 from e4)
  clear e1 e4
  have l0 : 0 ≤ (1 * x2.toInt + 0) + -40 := by
    obtain ⟨z, e6, e7⟩ := m3 ([(2, 1)], -40) (List.mem_of_getElem? (i := 0) rfl)
    obtain rfl : (1 * x2.toInt + 0) = z := Option.some.inj (show some (1 * x2.toInt + 0) = some z from e6)
    exact e7
  have l1 : 0 ≤ (-1 * x2.toInt + 0) + 47 := by
    obtain ⟨z, e6, e7⟩ := m3 ([(2, -1)], 47) (List.mem_of_getElem? (i := 1) rfl)
    obtain rfl : (-1 * x2.toInt + 0) = z := Option.some.inj (show some (-1 * x2.toInt + 0) = some z from e6)
    exact e7
  have l2 : 0 ≤ (1 * x3.toInt + (-1 * x2.toInt + 0)) + 8 := by
    obtain ⟨z, e6, e7⟩ := m3 ([(3, 1), (2, -1)], 8) (List.mem_of_getElem? (i := 2) rfl)
    obtain rfl : (1 * x3.toInt + (-1 * x2.toInt + 0)) = z := Option.some.inj (show some (1 * x3.toInt + (-1 * x2.toInt + 0)) = some z from e6)
    exact e7
  have l3 : 0 ≤ (-1 * x3.toInt + (1 * x2.toInt + 0)) + -8 := by
    obtain ⟨z, e6, e7⟩ := m3 ([(3, -1), (2, 1)], -8) (List.mem_of_getElem? (i := 3) rfl)
    obtain rfl : (-1 * x3.toInt + (1 * x2.toInt + 0)) = z := Option.some.inj (show some (-1 * x3.toInt + (1 * x2.toInt + 0)) = some z from e6)
    exact e7
  have f0 : fB K n p 146 [fR x0, fI x2, fI x5] σ := by
    obtain ⟨w, e6, e7⟩ := m4 (2339, [0, 2, 5]) (List.mem_of_getElem? (i := 0) rfl)
    obtain rfl : [fR x0, fI x2, fI x5] = w := Option.some.inj (show some [fR x0, fI x2, fI x5] = some w from e6)
    exact (fF_b (r := 2339) (by decide) rfl).mp e7
  have f1 : fB K n p 147 [fR x0, fI x3, fI x4] σ := by
    obtain ⟨w, e6, e7⟩ := m4 (2355, [0, 3, 4]) (List.mem_of_getElem? (i := 1) rfl)
    obtain rfl : [fR x0, fI x3, fI x4] = w := Option.some.inj (show some [fR x0, fI x3, fI x4] = some w from e6)
    exact (fF_b (r := 2355) (by decide) rfl).mp e7
  clear m1 m2 m3 m4
  obtain ⟨b1, q1, v1, g1, e1, w1, z1⟩ := f0
  cases e1
  obtain ⟨b2, q2, v2, g2, e2, w2, z2⟩ := f1
  cases e2
  obtain rfl := fMe_u w1 w2
  have q0 : fB K n (p) 143 [fR x0] σ := by
    refine ⟨_, rfl, g1, x2, x1, w1, ⟨b0, d0, _, _, s1, t1⟩, ⟨b0, d0, _, _, s0, t0⟩, by omega, by rw [z1]; omega, Or.inl ⟨by omega, by omega, by omega, ?_⟩⟩
    rw [show (x2.toInt - 8).toNat = x3.toInt.toNat by omega, z2]
    omega
  exact ⟨p, fun _ => rfl, ⟨(fun q h => by cases h), fun q h => (by cases h), (fun f h => by cases h), (aAllc ⟨_, rfl, (fF_b (r := 2289) (by decide) rfl).mpr q0⟩ (fun f h => by cases h))⟩, [], List.mem_cons_self, fun f h => (by cases h)⟩
set_option maxRecDepth 8192 in
theorem rw_ruPS1 {K : Nat → Nat} {n : Nat} : aGho (fF K n) fa_T K n (fJX K n) ag_ruPS1 := by
  refine aGho_of ⟨rfl, rfl⟩ ?_
  intro p σ ρ hH hX hA hM
  have hG := aAG_of hA.1 (fun i e v he hv => (hA.2 i e v he hv).1)
  clear hA
  obtain ⟨v0, v1, v2, v3, v4, v5, rfl, g0, g1, g2, g3, g4, g5⟩ := fA_6 hG
  clear hG
  obtain ⟨x0, rfl, b0, d0⟩ := fG_ref (by decide) g0
  obtain ⟨x1, rfl, b1, d1⟩ := aG_int g1
  dsimp only at b1 d1
  obtain ⟨x2, rfl, b2, d2⟩ := aG_int g2
  dsimp only at b2 d2
  obtain ⟨x3, rfl, b3, d3⟩ := aG_int g3
  dsimp only at b3 d3
  obtain ⟨x4, rfl, b4, d4⟩ := aG_int g4
  dsimp only at b4 d4
  obtain ⟨x5, rfl, b5, d5⟩ := aG_int g5
  dsimp only at b5 d5
  obtain ⟨m1, m2, m3, m4⟩ := hM
  obtain ⟨a0, c0, fs0, w0, e1, s0, t0, e4⟩ := m1 (0, 2, 1) (List.mem_of_getElem? (i := 0) rfl)
  obtain rfl : x0 = a0 := Sum.inl.inj (Option.some.inj (Sum.inr.inj (Sum.inr.inj (Option.some.inj (show some (fR x0) = some _ from e1)))))
  obtain rfl : fI x1 = w0 := Option.some.inj (show some (fI x1) = some w0 from e4)
  clear e1 e4
  obtain ⟨a1, c1, fs1, w1, e1, s1, t1, e4⟩ := m1 (0, 4, 2) (List.mem_of_getElem? (i := 1) rfl)
  obtain rfl : x0 = a1 := Sum.inl.inj (Option.some.inj (Sum.inr.inj (Sum.inr.inj (Option.some.inj (show some (fR x0) = some _ from e1)))))
  obtain rfl : fI x2 = w1 := Option.some.inj (show some (fI x2) = some w1 from e4)
  clear e1 e4
  have l0 : 0 ≤ (1 * x2.toInt + 0) + -16 := by
    obtain ⟨z, e6, e7⟩ := m3 ([(2, 1)], -16) (List.mem_of_getElem? (i := 0) rfl)
    obtain rfl : (1 * x2.toInt + 0) = z := Option.some.inj (show some (1 * x2.toInt + 0) = some z from e6)
    exact e7
  have l1 : 0 ≤ (-1 * x2.toInt + 0) + 23 := by
    obtain ⟨z, e6, e7⟩ := m3 ([(2, -1)], 23) (List.mem_of_getElem? (i := 1) rfl)
    obtain rfl : (-1 * x2.toInt + 0) = z := Option.some.inj (show some (-1 * x2.toInt + 0) = some z from e6)
    exact e7
  have l2 : 0 ≤ (1 * x3.toInt + (-1 * x2.toInt + 0)) + -8 := by
    obtain ⟨z, e6, e7⟩ := m3 ([(3, 1), (2, -1)], -8) (List.mem_of_getElem? (i := 2) rfl)
    obtain rfl : (1 * x3.toInt + (-1 * x2.toInt + 0)) = z := Option.some.inj (show some (1 * x3.toInt + (-1 * x2.toInt + 0)) = some z from e6)
    exact e7
  have l3 : 0 ≤ (-1 * x3.toInt + (1 * x2.toInt + 0)) + 8 := by
    obtain ⟨z, e6, e7⟩ := m3 ([(3, -1), (2, 1)], 8) (List.mem_of_getElem? (i := 3) rfl)
    obtain rfl : (-1 * x3.toInt + (1 * x2.toInt + 0)) = z := Option.some.inj (show some (-1 * x3.toInt + (1 * x2.toInt + 0)) = some z from e6)
    exact e7
  have f0 : fB K n p 146 [fR x0, fI x2, fI x5] σ := by
    obtain ⟨w, e6, e7⟩ := m4 (2339, [0, 2, 5]) (List.mem_of_getElem? (i := 0) rfl)
    obtain rfl : [fR x0, fI x2, fI x5] = w := Option.some.inj (show some [fR x0, fI x2, fI x5] = some w from e6)
    exact (fF_b (r := 2339) (by decide) rfl).mp e7
  have f1 : fB K n p 147 [fR x0, fI x3, fI x4] σ := by
    obtain ⟨w, e6, e7⟩ := m4 (2355, [0, 3, 4]) (List.mem_of_getElem? (i := 1) rfl)
    obtain rfl : [fR x0, fI x3, fI x4] = w := Option.some.inj (show some [fR x0, fI x3, fI x4] = some w from e6)
    exact (fF_b (r := 2355) (by decide) rfl).mp e7
  clear m1 m2 m3 m4
  obtain ⟨b1, q1, v1, g1, e1, w1, z1⟩ := f0
  cases e1
  obtain ⟨b2, q2, v2, g2, e2, w2, z2⟩ := f1
  cases e2
  obtain rfl := fMe_u w1 w2
  have q0 : fB K n (p) 143 [fR x0] σ := by
    refine ⟨_, rfl, g1, x2, x1, w1, ⟨b0, d0, _, _, s1, t1⟩, ⟨b0, d0, _, _, s0, t0⟩, by omega, by rw [z1]; omega, Or.inr ⟨by omega, by omega, by omega, ?_⟩⟩
    rw [show (x2.toInt + 8).toNat = x3.toInt.toNat by omega, z2]
    omega
  exact ⟨p, fun _ => rfl, ⟨(fun q h => by cases h), fun q h => (by cases h), (fun f h => by cases h), (aAllc ⟨_, rfl, (fF_b (r := 2289) (by decide) rfl).mpr q0⟩ (fun f h => by cases h))⟩, [], List.mem_cons_self, fun f h => (by cases h)⟩
set_option maxRecDepth 8192 in
theorem rw_ruPX {K : Nat → Nat} {n : Nat} : aGho (fF K n) fa_T K n (fJX K n) ag_ruPX := by
  refine aGho_of ⟨rfl, rfl⟩ ?_
  intro p σ ρ hH hX hA hM
  have hG := aAG_of hA.1 (fun i e v he hv => (hA.2 i e v he hv).1)
  clear hA
  obtain ⟨v0, v1, rfl, g0, g1⟩ := fA_2 hG
  clear hG
  obtain ⟨x0, rfl, b0, d0⟩ := fG_ref (by decide) g0
  obtain ⟨x1, rfl, b1, d1⟩ := aG_int g1
  dsimp only at b1 d1
  obtain ⟨m1, m2, m3, m4⟩ := hM
  have f0 : fB K n p 143 [fR x0] σ := by
    obtain ⟨w, e6, e7⟩ := m4 (2289, [0]) (List.mem_of_getElem? (i := 0) rfl)
    obtain rfl : [fR x0] = w := Option.some.inj (show some [fR x0] = some w from e6)
    exact (fF_b (r := 2289) (by decide) rfl).mp e7
  clear m1 m2 m3 m4
  obtain ⟨b, e, h⟩ := f0
  cases e
  have q0 : fB K n (p) 149 [fR x0, fI x1] σ := by
    exact ⟨_, _, rfl, Or.inr h⟩
  exact ⟨p, fun _ => rfl, ⟨(fun q h => by cases h), fun q h => (by cases h), (fun f h => by cases h), (aAllc ⟨_, rfl, (fF_b (r := 2386) (by decide) rfl).mpr q0⟩ (fun f h => by cases h))⟩, [], List.mem_cons_self, fun f h => (by cases h)⟩
set_option maxRecDepth 8192 in
theorem rw_ruPX0 {K : Nat → Nat} {n : Nat} : aGho (fF K n) fa_T K n (fJX K n) ag_ruPX0 := by
  refine aGho_of ⟨rfl, rfl⟩ ?_
  intro p σ ρ hH hX hA hM
  have hG := aAG_of hA.1 (fun i e v he hv => (hA.2 i e v he hv).1)
  clear hA
  obtain ⟨v0, v1, rfl, g0, g1⟩ := fA_2 hG
  clear hG
  obtain ⟨x0, rfl, b0, d0⟩ := fG_ref (by decide) g0
  obtain ⟨x1, rfl, b1, d1⟩ := aG_int g1
  dsimp only at b1 d1
  obtain ⟨m1, m2, m3, m4⟩ := hM
  clear m1 m2 m3 m4
  have q0 : fB K n (p) 149 [fR x0, fI x1] σ := by
    exact ⟨_, _, rfl, Or.inl (by omega)⟩
  exact ⟨p, fun _ => rfl, ⟨(fun q h => by cases h), fun q h => (by cases h), (fun f h => by cases h), (aAllc ⟨_, rfl, (fF_b (r := 2386) (by decide) rfl).mpr q0⟩ (fun f h => by cases h))⟩, [], List.mem_cons_self, fun f h => (by cases h)⟩
set_option maxRecDepth 8192 in
theorem rw_ruPX1 {K : Nat → Nat} {n : Nat} : aGho (fF K n) fa_T K n (fJX K n) ag_ruPX1 := by
  refine aGho_of ⟨rfl, rfl⟩ ?_
  intro p σ ρ hH hX hA hM
  have hG := aAG_of hA.1 (fun i e v he hv => (hA.2 i e v he hv).1)
  clear hA
  obtain ⟨v0, v1, rfl, g0, g1⟩ := fA_2 hG
  clear hG
  obtain ⟨x0, rfl, b0, d0⟩ := fG_ref (by decide) g0
  obtain ⟨x1, rfl, b1, d1⟩ := aG_int g1
  dsimp only at b1 d1
  obtain ⟨m1, m2, m3, m4⟩ := hM
  have f0 : fB K n p 149 [fR x0, fI x1] σ := by
    obtain ⟨w, e6, e7⟩ := m4 (2386, [0, 1]) (List.mem_of_getElem? (i := 0) rfl)
    obtain rfl : [fR x0, fI x1] = w := Option.some.inj (show some [fR x0, fI x1] = some w from e6)
    exact (fF_b (r := 2386) (by decide) rfl).mp e7
  clear m1 m2 m3 m4
  obtain ⟨b, x, e, h⟩ := f0
  cases e
  have q0 : fB K n (p) 143 [fR x0] σ := by
    exact ⟨_, rfl, h.resolve_left (by omega)⟩
  exact ⟨p, fun _ => rfl, ⟨(fun q h => by cases h), fun q h => (by cases h), (fun f h => by cases h), (aAllc ⟨_, rfl, (fF_b (r := 2289) (by decide) rfl).mpr q0⟩ (fun f h => by cases h))⟩, [], List.mem_cons_self, fun f h => (by cases h)⟩
set_option maxRecDepth 8192 in
theorem rw_ruBG0 {K : Nat → Nat} {n : Nat} : aGho (fF K n) fa_T K n (fJX K n) ag_ruBG0 := by
  refine aGho_of ⟨rfl, rfl⟩ ?_
  intro p σ ρ hH hX hA hM
  have hG := aAG_of hA.1 (fun i e v he hv => (hA.2 i e v he hv).1)
  clear hA
  obtain ⟨v0, v1, v2, v3, v4, v5, rfl, g0, g1, g2, g3, g4, g5⟩ := fA_6 hG
  clear hG
  obtain ⟨x0, rfl, b0, d0⟩ := fG_ref (by decide) g0
  obtain ⟨x1, rfl, b1, d1⟩ := aG_int g1
  dsimp only at b1 d1
  obtain ⟨x2, rfl, b2, d2⟩ := aG_int g2
  dsimp only at b2 d2
  obtain ⟨x3, rfl, b3, d3⟩ := aG_int g3
  dsimp only at b3 d3
  obtain ⟨x4, rfl, b4, d4⟩ := aG_int g4
  dsimp only at b4 d4
  obtain ⟨x5, rfl, b5, d5⟩ := aG_int g5
  dsimp only at b5 d5
  obtain ⟨m1, m2, m3, m4⟩ := hM
  obtain ⟨a0, c0, fs0, w0, e1, s0, t0, e4⟩ := m1 (0, 2, 4) (List.mem_of_getElem? (i := 0) rfl)
  obtain rfl : x0 = a0 := Sum.inl.inj (Option.some.inj (Sum.inr.inj (Sum.inr.inj (Option.some.inj (show some (fR x0) = some _ from e1)))))
  obtain rfl : fI x4 = w0 := Option.some.inj (show some (fI x4) = some w0 from e4)
  clear e1 e4
  obtain ⟨a1, c1, fs1, w1, e1, s1, t1, e4⟩ := m1 (0, 3, 5) (List.mem_of_getElem? (i := 1) rfl)
  obtain rfl : x0 = a1 := Sum.inl.inj (Option.some.inj (Sum.inr.inj (Sum.inr.inj (Option.some.inj (show some (fR x0) = some _ from e1)))))
  obtain rfl : fI x5 = w1 := Option.some.inj (show some (fI x5) = some w1 from e4)
  clear e1 e4
  obtain ⟨a2, c2, fs2, w2, e1, s2, t2, e4⟩ := m1 (0, 4, 1) (List.mem_of_getElem? (i := 2) rfl)
  obtain rfl : x0 = a2 := Sum.inl.inj (Option.some.inj (Sum.inr.inj (Sum.inr.inj (Option.some.inj (show some (fR x0) = some _ from e1)))))
  obtain rfl : fI x1 = w2 := Option.some.inj (show some (fI x1) = some w2 from e4)
  clear e1 e4
  obtain ⟨a3, c3, fs3, w3, e1, s3, t3, e4⟩ := m1 (0, 5, 2) (List.mem_of_getElem? (i := 3) rfl)
  obtain rfl : x0 = a3 := Sum.inl.inj (Option.some.inj (Sum.inr.inj (Sum.inr.inj (Option.some.inj (show some (fR x0) = some _ from e1)))))
  obtain rfl : fI x2 = w3 := Option.some.inj (show some (fI x2) = some w3 from e4)
  clear e1 e4
  have f0 : fB K n p 137 [fR x0] σ := by
    obtain ⟨w, e6, e7⟩ := m4 (2193, [0]) (List.mem_of_getElem? (i := 0) rfl)
    obtain rfl : [fR x0] = w := Option.some.inj (show some [fR x0] = some w from e6)
    exact (fF_b (r := 2193) (by decide) rfl).mp e7
  have f1 : fB K n p 142 [fR x0] σ := by
    obtain ⟨w, e6, e7⟩ := m4 (2273, [0]) (List.mem_of_getElem? (i := 1) rfl)
    obtain rfl : [fR x0] = w := Option.some.inj (show some [fR x0] = some w from e6)
    exact (fF_b (r := 2273) (by decide) rfl).mp e7
  have f2 : fB K n p 154 [fR x0] σ := by
    obtain ⟨w, e6, e7⟩ := m4 (2465, [0]) (List.mem_of_getElem? (i := 2) rfl)
    obtain rfl : [fR x0] = w := Option.some.inj (show some [fR x0] = some w from e6)
    exact (fF_b (r := 2465) (by decide) rfl).mp e7
  have f3 : fB K n p 157 [fR x0, fI x3] σ := by
    obtain ⟨w, e6, e7⟩ := m4 (2514, [0, 3]) (List.mem_of_getElem? (i := 3) rfl)
    obtain rfl : [fR x0, fI x3] = w := Option.some.inj (show some [fR x0, fI x3] = some w from e6)
    exact (fF_b (r := 2514) (by decide) rfl).mp e7
  clear m1 m2 m3 m4
  obtain ⟨b15, g, e15, w, l⟩ := f0
  cases e15
  obtain ⟨b16, e16, g6, R6, w6, o6, r0, r1, r2, r3⟩ := f1
  cases e16
  obtain rfl := fMe_u w6 w
  obtain rfl := fOb_i o6 s1 t1
  obtain ⟨b17, g7, e17, w7, m7, rr, gw, o7, u1, u2, u3, u4, u5⟩ := f2
  cases e17
  obtain rfl := fMe_u w7 w
  obtain ⟨b18, i18, g8, e18, w8, l8⟩ := f3
  cases e18
  obtain rfl := fMe_u w8 w
  have hc := fBo_c hH b0 d0 s0
  subst hc
  rw [s0] at s1 s2 s3
  cases s1
  cases s2
  cases s3
  obtain ⟨r, ⟨ha, hk, c7, fs7, e7, e8⟩, l1, l2, l3⟩ := w
  rw [s0] at e7
  cases e7
  obtain ⟨-, -, c9, fs9, e9, e10⟩ := o7
  rw [s0] at e9
  cases e9
  have q0 : fB K n (p) 127 [fR x0] σ := by
    refine ⟨_, rfl, (g8, fun k => if k = 2 then x4 else if k = 3 then x5 else if k = 4 then x1 else if k = 5 then x2 else if k = 12 then gw 0 else gw 1), ⟨b0, d0, _, r, g8, s0, e8, l1, l2, l3, fun i _ => rfl, t0, t1, t2, t3, rr, gw, e10, u1, u2, u3, rfl, rfl⟩, ⟨Or.inl (show x1.toInt = -1 by omega), ?_, ⟨b4, d4⟩, ⟨b5, d5⟩, fun i hi => ?_⟩, ⟨b2, d2⟩⟩
    · intro s hs
      rcases s with _ | _ | s
      · refine ⟨fun h => ?_, fun h => ?_, u4⟩
        · have h9 := r0 (by simpa using h)
          exact ⟨by simpa using h9.1, by simpa using h9.2⟩
        · have h9 := r1 (by simpa using h)
          exact ⟨by simpa using h9.1, by simpa using h9.2⟩
      · refine ⟨fun h => ?_, fun h => ?_, u5⟩
        · have h9 := r2 (by simpa using h)
          exact ⟨by simpa using h9.1, by simpa using h9.2⟩
        · have h9 := r3 (by simpa using h)
          exact ⟨by simpa using h9.1, by simpa using h9.2⟩
      · omega
    · obtain ⟨a1, a2, a3, a4⟩ := l i hi
      refine ⟨a1, a2, a3, a4, ?_⟩
      by_cases c1 : i < 8
      · have := (l8 i (by omega)).1
        exact Or.inl this
      · by_cases c2 : i ≤ 55
        · exact Or.inr ⟨by omega, c2⟩
        · have := (l8 (i - 56) (by omega)).2
          rw [show 56 + (i - 56) = i by omega] at this
          exact Or.inl this
  exact ⟨p, fun _ => rfl, ⟨(fun q h => by cases h), fun q h => (by cases h), (fun f h => by cases h), (aAllc ⟨_, rfl, (fF_b (r := 2033) (by decide) rfl).mpr q0⟩ (fun f h => by cases h))⟩, [], List.mem_cons_self, fun f h => (by cases h)⟩
set_option maxRecDepth 8192 in
theorem rw_ruBG1 {K : Nat → Nat} {n : Nat} : aGho (fF K n) fa_T K n (fJX K n) ag_ruBG1 := by
  refine aGho_of ⟨rfl, rfl⟩ ?_
  intro p σ ρ hH hX hA hM
  have hG := aAG_of hA.1 (fun i e v he hv => (hA.2 i e v he hv).1)
  clear hA
  obtain ⟨v0, v1, v2, v3, v4, v5, rfl, g0, g1, g2, g3, g4, g5⟩ := fA_6 hG
  clear hG
  obtain ⟨x0, rfl, b0, d0⟩ := fG_ref (by decide) g0
  obtain ⟨x1, rfl, b1, d1⟩ := aG_int g1
  dsimp only at b1 d1
  obtain ⟨x2, rfl, b2, d2⟩ := aG_int g2
  dsimp only at b2 d2
  obtain ⟨x3, rfl, b3, d3⟩ := aG_int g3
  dsimp only at b3 d3
  obtain ⟨x4, rfl, b4, d4⟩ := aG_int g4
  dsimp only at b4 d4
  obtain ⟨x5, rfl, b5, d5⟩ := aG_int g5
  dsimp only at b5 d5
  obtain ⟨m1, m2, m3, m4⟩ := hM
  obtain ⟨a0, c0, fs0, w0, e1, s0, t0, e4⟩ := m1 (0, 2, 4) (List.mem_of_getElem? (i := 0) rfl)
  obtain rfl : x0 = a0 := Sum.inl.inj (Option.some.inj (Sum.inr.inj (Sum.inr.inj (Option.some.inj (show some (fR x0) = some _ from e1)))))
  obtain rfl : fI x4 = w0 := Option.some.inj (show some (fI x4) = some w0 from e4)
  clear e1 e4
  obtain ⟨a1, c1, fs1, w1, e1, s1, t1, e4⟩ := m1 (0, 3, 5) (List.mem_of_getElem? (i := 1) rfl)
  obtain rfl : x0 = a1 := Sum.inl.inj (Option.some.inj (Sum.inr.inj (Sum.inr.inj (Option.some.inj (show some (fR x0) = some _ from e1)))))
  obtain rfl : fI x5 = w1 := Option.some.inj (show some (fI x5) = some w1 from e4)
  clear e1 e4
  obtain ⟨a2, c2, fs2, w2, e1, s2, t2, e4⟩ := m1 (0, 4, 1) (List.mem_of_getElem? (i := 2) rfl)
  obtain rfl : x0 = a2 := Sum.inl.inj (Option.some.inj (Sum.inr.inj (Sum.inr.inj (Option.some.inj (show some (fR x0) = some _ from e1)))))
  obtain rfl : fI x1 = w2 := Option.some.inj (show some (fI x1) = some w2 from e4)
  clear e1 e4
  obtain ⟨a3, c3, fs3, w3, e1, s3, t3, e4⟩ := m1 (0, 5, 2) (List.mem_of_getElem? (i := 3) rfl)
  obtain rfl : x0 = a3 := Sum.inl.inj (Option.some.inj (Sum.inr.inj (Sum.inr.inj (Option.some.inj (show some (fR x0) = some _ from e1)))))
  obtain rfl : fI x2 = w3 := Option.some.inj (show some (fI x2) = some w3 from e4)
  clear e1 e4
  have f0 : fB K n p 137 [fR x0] σ := by
    obtain ⟨w, e6, e7⟩ := m4 (2193, [0]) (List.mem_of_getElem? (i := 0) rfl)
    obtain rfl : [fR x0] = w := Option.some.inj (show some [fR x0] = some w from e6)
    exact (fF_b (r := 2193) (by decide) rfl).mp e7
  have f1 : fB K n p 142 [fR x0] σ := by
    obtain ⟨w, e6, e7⟩ := m4 (2273, [0]) (List.mem_of_getElem? (i := 1) rfl)
    obtain rfl : [fR x0] = w := Option.some.inj (show some [fR x0] = some w from e6)
    exact (fF_b (r := 2273) (by decide) rfl).mp e7
  have f2 : fB K n p 143 [fR x0] σ := by
    obtain ⟨w, e6, e7⟩ := m4 (2289, [0]) (List.mem_of_getElem? (i := 2) rfl)
    obtain rfl : [fR x0] = w := Option.some.inj (show some [fR x0] = some w from e6)
    exact (fF_b (r := 2289) (by decide) rfl).mp e7
  have f3 : fB K n p 154 [fR x0] σ := by
    obtain ⟨w, e6, e7⟩ := m4 (2465, [0]) (List.mem_of_getElem? (i := 3) rfl)
    obtain rfl : [fR x0] = w := Option.some.inj (show some [fR x0] = some w from e6)
    exact (fF_b (r := 2465) (by decide) rfl).mp e7
  have f4 : fB K n p 157 [fR x0, fI x3] σ := by
    obtain ⟨w, e6, e7⟩ := m4 (2514, [0, 3]) (List.mem_of_getElem? (i := 4) rfl)
    obtain rfl : [fR x0, fI x3] = w := Option.some.inj (show some [fR x0, fI x3] = some w from e6)
    exact (fF_b (r := 2514) (by decide) rfl).mp e7
  clear m1 m2 m3 m4
  obtain ⟨b15, g, e15, w, l⟩ := f0
  cases e15
  obtain ⟨b16, e16, g6, R6, w6, o6, r0, r1, r2, r3⟩ := f1
  cases e16
  obtain rfl := fMe_u w6 w
  obtain rfl := fOb_i o6 s1 t1
  obtain ⟨b17, g7, e17, w7, m7, rr, gw, o7, u1, u2, u3, u4, u5⟩ := f3
  cases e17
  obtain rfl := fMe_u w7 w
  obtain ⟨b18, i18, g8, e18, w8, l8⟩ := f4
  cases e18
  obtain rfl := fMe_u w8 w
  obtain ⟨b19, e19, g9, P9, S9, w9, o9, o10, k1, k2, k3⟩ := f2
  cases e19
  obtain rfl := fMe_u w9 w
  obtain rfl := fOb_i o9 s2 t2
  obtain rfl := fOb_i o10 s0 t0
  have hc := fBo_c hH b0 d0 s0
  subst hc
  rw [s0] at s1 s2 s3
  cases s1
  cases s2
  cases s3
  obtain ⟨r, ⟨ha, hk, c7, fs7, e7, e8⟩, l1, l2, l3⟩ := w
  rw [s0] at e7
  cases e7
  obtain ⟨-, -, c9, fs9, e9, e10⟩ := o7
  rw [s0] at e9
  cases e9
  have q0 : fB K n (p) 127 [fR x0] σ := by
    refine ⟨_, rfl, (g9, fun k => if k = 2 then x4 else if k = 3 then x5 else if k = 4 then x1 else if k = 5 then x2 else if k = 12 then gw 0 else gw 1), ⟨b0, d0, _, r, g9, s0, e8, l1, l2, l3, fun i _ => rfl, t0, t1, t2, t3, rr, gw, e10, u1, u2, u3, rfl, rfl⟩, ⟨Or.inr ?_, ?_, ⟨b4, d4⟩, ⟨b5, d5⟩, fun i hi => ?_⟩, ⟨b2, d2⟩⟩
    · show 0 ≤ x1.toInt ∧ (g9 x1.toInt.toNat).toInt = 0 ∧ (g9 (if x4.toInt = 0 then x1.toInt - 8 else x1.toInt + 8).toNat).toInt = 8 * (1 - x4.toInt) + 1 ∧ (x4.toInt = 0 → 40 ≤ x1.toInt ∧ x1.toInt ≤ 47) ∧ (x4.toInt = 1 → 16 ≤ x1.toInt ∧ x1.toInt ≤ 23)
      rcases k3 with ⟨y1, y2, y3, y4⟩ | ⟨y1, y2, y3, y4⟩
      · rw [if_pos y1]
        exact ⟨k1, k2, by omega, by omega, by omega⟩
      · rw [if_neg (by omega)]
        exact ⟨k1, k2, by omega, by omega, by omega⟩
    · intro s hs
      rcases s with _ | _ | s
      · refine ⟨fun h => ?_, fun h => ?_, u4⟩
        · have h9 := r0 (by simpa using h)
          exact ⟨by simpa using h9.1, by simpa using h9.2⟩
        · have h9 := r1 (by simpa using h)
          exact ⟨by simpa using h9.1, by simpa using h9.2⟩
      · refine ⟨fun h => ?_, fun h => ?_, u5⟩
        · have h9 := r2 (by simpa using h)
          exact ⟨by simpa using h9.1, by simpa using h9.2⟩
        · have h9 := r3 (by simpa using h)
          exact ⟨by simpa using h9.1, by simpa using h9.2⟩
      · omega
    · obtain ⟨a1, a2, a3, a4⟩ := l i hi
      refine ⟨a1, a2, a3, a4, ?_⟩
      by_cases c1 : i < 8
      · have := (l8 i (by omega)).1
        exact Or.inl this
      · by_cases c2 : i ≤ 55
        · exact Or.inr ⟨by omega, c2⟩
        · have := (l8 (i - 56) (by omega)).2
          rw [show 56 + (i - 56) = i by omega] at this
          exact Or.inl this
  exact ⟨p, fun _ => rfl, ⟨(fun q h => by cases h), fun q h => (by cases h), (fun f h => by cases h), (aAllc ⟨_, rfl, (fF_b (r := 2033) (by decide) rfl).mpr q0⟩ (fun f h => by cases h))⟩, [], List.mem_cons_self, fun f h => (by cases h)⟩
set_option maxRecDepth 8192 in
theorem rw_ruSFz {K : Nat → Nat} {n : Nat} : aGho (fF K n) fa_T K n (fJX K n) ag_ruSFz := by
  refine aGho_of ⟨rfl, rfl⟩ ?_
  intro p σ ρ hH hX hA hM
  have hG := aAG_of hA.1 (fun i e v he hv => (hA.2 i e v he hv).1)
  clear hA
  obtain ⟨v0, v1, rfl, g0, g1⟩ := fA_2 hG
  clear hG
  obtain ⟨x0, rfl, b0, d0⟩ := fG_ref (by decide) g0
  obtain ⟨x1, rfl, b1, d1⟩ := fG_ref (by decide) g1
  obtain ⟨m1, m2, m3, m4⟩ := hM
  obtain ⟨a0, c0, fs0, w0, e1, s0, t0, e4⟩ := m1 (0, 0, 1) (List.mem_of_getElem? (i := 0) rfl)
  obtain rfl : x0 = a0 := Sum.inl.inj (Option.some.inj (Sum.inr.inj (Sum.inr.inj (Option.some.inj (show some (fR x0) = some _ from e1)))))
  obtain rfl : fR x1 = w0 := Option.some.inj (show some (fR x1) = some w0 from e4)
  clear e1 e4
  have f0 : fB K n p 145 [fR x1] σ := by
    obtain ⟨w, e6, e7⟩ := m4 (2321, [1]) (List.mem_of_getElem? (i := 0) rfl)
    obtain rfl : [fR x1] = w := Option.some.inj (show some [fR x1] = some w from e6)
    exact (fF_b (r := 2321) (by decide) rfl).mp e7
  clear m1 m2 m3 m4
  obtain ⟨r, g, e, l1, l2, l3, l4⟩ := f0
  cases e
  have q0 : fB K n (p) 160 [fR x0] σ := by
    exact ⟨by decide, _, g, rfl, ⟨_, ⟨b0, d0, _, _, s0, t0⟩, l1, l2, l3⟩, fun j hj => by rw [l4 j hj]; rfl⟩
  exact ⟨p, fun _ => rfl, ⟨(fun q h => by cases h), fun q h => (by cases h), (fun f h => by cases h), (aAllc ⟨_, rfl, (fF_b (r := 2561) (by decide) rfl).mpr q0⟩ (fun f h => by cases h))⟩, [], List.mem_cons_self, fun f h => (by cases h)⟩
set_option maxRecDepth 8192 in
theorem rw_ruSFe {K : Nat → Nat} {n : Nat} : aGho (fF K n) fa_T K n (fJX K n) ag_ruSFe := by
  refine aGho_of ⟨rfl, rfl⟩ ?_
  intro p σ ρ hH hX hA hM
  have hG := aAG_of hA.1 (fun i e v he hv => (hA.2 i e v he hv).1)
  clear hA
  obtain ⟨v0, v1, v2, v3, v4, rfl, g0, g1, g2, g3, g4⟩ := fA_5 hG
  clear hG
  obtain ⟨x0, rfl, b0, d0⟩ := fG_ref (by decide) g0
  obtain ⟨x1, rfl, b1, d1⟩ := aG_int g1
  dsimp only at b1 d1
  obtain ⟨x2, rfl, b2, d2⟩ := aG_int g2
  dsimp only at b2 d2
  obtain ⟨x3, rfl, b3, d3⟩ := aG_int g3
  dsimp only at b3 d3
  obtain ⟨x4, rfl, b4, d4⟩ := aG_int g4
  dsimp only at b4 d4
  obtain ⟨m1, m2, m3, m4⟩ := hM
  obtain ⟨a0, c0, fs0, w0, e1, s0, t0, e4⟩ := m1 (0, 4, 1) (List.mem_of_getElem? (i := 0) rfl)
  obtain rfl : x0 = a0 := Sum.inl.inj (Option.some.inj (Sum.inr.inj (Sum.inr.inj (Option.some.inj (show some (fR x0) = some _ from e1)))))
  obtain rfl : fI x1 = w0 := Option.some.inj (show some (fI x1) = some w0 from e4)
  clear e1 e4
  obtain ⟨a1, c1, fs1, w1, e1, s1, t1, e4⟩ := m1 (0, 5, 2) (List.mem_of_getElem? (i := 1) rfl)
  obtain rfl : x0 = a1 := Sum.inl.inj (Option.some.inj (Sum.inr.inj (Sum.inr.inj (Option.some.inj (show some (fR x0) = some _ from e1)))))
  obtain rfl : fI x2 = w1 := Option.some.inj (show some (fI x2) = some w1 from e4)
  clear e1 e4
  obtain ⟨a2, c2, fs2, w2, e1, s2, t2, e4⟩ := m1 (0, 2, 3) (List.mem_of_getElem? (i := 2) rfl)
  obtain rfl : x0 = a2 := Sum.inl.inj (Option.some.inj (Sum.inr.inj (Sum.inr.inj (Option.some.inj (show some (fR x0) = some _ from e1)))))
  obtain rfl : fI x3 = w2 := Option.some.inj (show some (fI x3) = some w2 from e4)
  clear e1 e4
  obtain ⟨a3, c3, fs3, w3, e1, s3, t3, e4⟩ := m1 (0, 3, 4) (List.mem_of_getElem? (i := 3) rfl)
  obtain rfl : x0 = a3 := Sum.inl.inj (Option.some.inj (Sum.inr.inj (Sum.inr.inj (Option.some.inj (show some (fR x0) = some _ from e1)))))
  obtain rfl : fI x4 = w3 := Option.some.inj (show some (fI x4) = some w3 from e4)
  clear e1 e4
  have f0 : fB K n p 192 [fR x0] σ := by
    obtain ⟨w, e6, e7⟩ := m4 (3073, [0]) (List.mem_of_getElem? (i := 0) rfl)
    obtain rfl : [fR x0] = w := Option.some.inj (show some [fR x0] = some w from e6)
    exact (fF_b (r := 3073) (by decide) rfl).mp e7
  have f1 : fB K n p 154 [fR x0] σ := by
    obtain ⟨w, e6, e7⟩ := m4 (2465, [0]) (List.mem_of_getElem? (i := 1) rfl)
    obtain rfl : [fR x0] = w := Option.some.inj (show some [fR x0] = some w from e6)
    exact (fF_b (r := 2465) (by decide) rfl).mp e7
  clear m1 m2 m3 m4
  obtain ⟨-, b, g, e, w, l⟩ := f0
  cases e
  have hc := fBo_c hH b0 d0 s0
  subst hc
  rw [s0] at s1 s2 s3
  cases s1
  cases s2
  cases s3
  obtain ⟨b17, g7, e17, w7, m7, rr, gw, o7, u1, u2, u3, u4, u5⟩ := f1
  cases e17
  obtain rfl := fMe_u w7 w
  obtain ⟨r, ⟨ha, hk, c7, fs7, e7, e8⟩, l1, l2, l3⟩ := w
  rw [s0] at e7
  cases e7
  obtain ⟨-, -, c9, fs9, e9, e10⟩ := o7
  rw [s0] at e9
  cases e9
  have q0 : fB K n (p) 127 [fR x0] σ := by
    refine ⟨_, rfl, (g7, fun k => if k = 2 then x3 else if k = 3 then x4 else if k = 4 then x1 else if k = 5 then x2 else if k = 12 then gw 0 else gw 1), ⟨b0, d0, _, r, g7, s0, e8, l1, l2, l3, fun i _ => rfl, t2, t3, t0, t1, rr, gw, e10, u1, u2, u3, rfl, rfl⟩, ⟨Or.inl (show x1.toInt = -1 by omega), fun s hs => ?_, ⟨show 0 ≤ x3.toInt by omega, show x3.toInt ≤ 1 by omega⟩, ⟨show 0 ≤ x4.toInt by omega, show x4.toInt ≤ 15 by omega⟩, fun i hi => ?_⟩, ⟨show 0 ≤ x2.toInt by omega, show x2.toInt ≤ 999 by omega⟩⟩
    · rcases s with _ | _ | s
      · exact ⟨fun _ => ⟨(l 4 (by decide)).trans rfl, (l 7 (by decide)).trans rfl⟩, fun _ => ⟨(l 4 (by decide)).trans rfl, (l 0 (by decide)).trans rfl⟩, u4⟩
      · exact ⟨fun _ => ⟨(l 60 (by decide)).trans rfl, (l 63 (by decide)).trans rfl⟩, fun _ => ⟨(l 60 (by decide)).trans rfl, (l 56 (by decide)).trans rfl⟩, u5⟩
      · omega
    · have h1 := l i hi
      have h2 := fFst_ok i hi
      rw [← h1] at h2
      exact h2
  exact ⟨p, fun _ => rfl, ⟨(fun q h => by cases h), fun q h => (by cases h), (fun f h => by cases h), (aAllc ⟨_, rfl, (fF_b (r := 2033) (by decide) rfl).mpr q0⟩ (fun f h => by cases h))⟩, [], List.mem_cons_self, fun f h => (by cases h)⟩
set_option maxRecDepth 8192 in
theorem rw_ruBF1 {K : Nat → Nat} {n : Nat} : aGho (fF K n) fa_T K n (fJX K n) ag_ruBF1 := by
  refine aGho_of ⟨rfl, rfl⟩ ?_
  intro p σ ρ hH hX hA hM
  have hG := aAG_of hA.1 (fun i e v he hv => (hA.2 i e v he hv).1)
  clear hA
  obtain ⟨v0, v1, rfl, g0, g1⟩ := fA_2 hG
  clear hG
  obtain ⟨x0, rfl, b0, d0⟩ := aG_int g0
  dsimp only at b0 d0
  obtain ⟨x1, rfl, b1, d1⟩ := fG_ref (by decide) g1
  obtain ⟨m1, m2, m3, m4⟩ := hM
  have f0 : fB K n p 127 [fR x1] σ := by
    obtain ⟨w, e6, e7⟩ := m4 (2033, [1]) (List.mem_of_getElem? (i := 0) rfl)
    obtain rfl : [fR x1] = w := Option.some.inj (show some [fR x1] = some w from e6)
    exact (fF_b (r := 2033) (by decide) rfl).mp e7
  clear m1 m2 m3 m4
  obtain ⟨b, e, h⟩ := f0
  cases e
  have q0 : fB K n (p) 128 [fI x0, fR x1] σ := by
    exact ⟨_, _, rfl, Or.inr h⟩
  exact ⟨p, fun _ => rfl, ⟨(fun q h => by cases h), fun q h => (by cases h), (fun f h => by cases h), (aAllc ⟨_, rfl, (fF_b (r := 2050) (by decide) rfl).mpr q0⟩ (fun f h => by cases h))⟩, [], List.mem_cons_self, fun f h => (by cases h)⟩
set_option maxRecDepth 8192 in
theorem rw_ruBF2 {K : Nat → Nat} {n : Nat} : aGho (fF K n) fa_T K n (fJX K n) ag_ruBF2 := by
  refine aGho_of ⟨rfl, rfl⟩ ?_
  intro p σ ρ hH hX hA hM
  have hG := aAG_of hA.1 (fun i e v he hv => (hA.2 i e v he hv).1)
  clear hA
  obtain ⟨v0, v1, rfl, g0, g1⟩ := fA_2 hG
  clear hG
  obtain ⟨x0, rfl, b0, d0⟩ := aG_int g0
  dsimp only at b0 d0
  obtain ⟨x1, rfl, b1, d1⟩ := fG_ref (by decide) g1
  obtain ⟨m1, m2, m3, m4⟩ := hM
  clear m1 m2 m3 m4
  have q0 : fB K n (p) 128 [fI x0, fR x1] σ := by
    exact ⟨_, _, rfl, Or.inl (by omega)⟩
  exact ⟨p, fun _ => rfl, ⟨(fun q h => by cases h), fun q h => (by cases h), (fun f h => by cases h), (aAllc ⟨_, rfl, (fF_b (r := 2050) (by decide) rfl).mpr q0⟩ (fun f h => by cases h))⟩, [], List.mem_cons_self, fun f h => (by cases h)⟩
end
section
/-! rules of the line: their proofs -/
set_option maxRecDepth 8192 in
theorem rw_ruHL0 {K : Nat → Nat} {n : Nat} : aGho (fF K n) fa_T K n (fJX K n) ag_ruHL0 := by
  refine aGho_of ⟨rfl, rfl⟩ ?_
  intro p σ ρ hH hX hA hM
  have hG := aAG_of hA.1 (fun i e v he hv => (hA.2 i e v he hv).1)
  clear hA
  obtain ⟨v0, v1, v2, v3, v4, v5, rfl, g0, g1, g2, g3, g4, g5⟩ := fA_6 hG
  clear hG
  obtain ⟨x0, rfl, b0, d0⟩ := fG_ref (by decide) g0
  obtain ⟨x1, rfl, b1, d1⟩ := aG_int g1
  dsimp only at b1 d1
  obtain ⟨x2, rfl, b2, d2⟩ := fG_ref (by decide) g2
  obtain ⟨x3, rfl, b3, d3⟩ := aG_int g3
  dsimp only at b3 d3
  obtain ⟨x4, rfl, b4, d4⟩ := fG_ref (by decide) g4
  obtain ⟨x5, rfl, b5, d5⟩ := aG_int g5
  dsimp only at b5 d5
  obtain ⟨m1, m2, m3, m4⟩ := hM
  obtain ⟨a0, c0, fs0, w0, e1, s0, t0, e4⟩ := m1 (0, 3, 5) (List.mem_of_getElem? (i := 0) rfl)
  obtain rfl : x0 = a0 := Sum.inl.inj (Option.some.inj (Sum.inr.inj (Sum.inr.inj (Option.some.inj (show some (fR x0) = some _ from e1)))))
  obtain rfl : fI x5 = w0 := Option.some.inj (show some (fI x5) = some w0 from e4)
  clear e1 e4
  obtain ⟨a1, c1, fs1, w1, e1, s1, t1, e4⟩ := m1 (0, 4, 2) (List.mem_of_getElem? (i := 1) rfl)
  obtain rfl : x0 = a1 := Sum.inl.inj (Option.some.inj (Sum.inr.inj (Sum.inr.inj (Option.some.inj (show some (fR x0) = some _ from e1)))))
  obtain rfl : fR x2 = w1 := Option.some.inj (show some (fR x2) = some w1 from e4)
  clear e1 e4
  obtain ⟨a2, c2, fs2, w2, e1, s2, t2, e4⟩ := m1 (0, 9, 3) (List.mem_of_getElem? (i := 2) rfl)
  obtain rfl : x0 = a2 := Sum.inl.inj (Option.some.inj (Sum.inr.inj (Sum.inr.inj (Option.some.inj (show some (fR x0) = some _ from e1)))))
  obtain rfl : fI x3 = w2 := Option.some.inj (show some (fI x3) = some w2 from e4)
  clear e1 e4
  have f0 : fB K n p 1 [fR x4] σ := by
    obtain ⟨w, e6, e7⟩ := m4 (17, [4]) (List.mem_of_getElem? (i := 0) rfl)
    obtain rfl : [fR x4] = w := Option.some.inj (show some [fR x4] = some w from e6)
    exact (fF_b (r := 17) (by decide) rfl).mp e7
  clear m1 m2 m3 m4
  obtain ⟨a9, e9, A9, hg9, q9, hq9⟩ := f0
  cases e9
  obtain ⟨g, w⟩ := fPc_mk hH b0 d0 s1 t1 b2 d2
  have q0 : fB K n (p) 71 [fR x0, fI x1] σ := by
    refine ⟨_, _, _, _, g, rfl, w, ⟨b0, d0, _, _, s2, t2⟩, ⟨b0, d0, _, _, s0, t0⟩, Or.inr ⟨⟨q9, hq9⟩, ?_⟩⟩
    rw [show x1.toInt.toNat = 0 by omega]
    trivial
  exact ⟨p, fun _ => rfl, ⟨(fun q h => by cases h), fun q h => (by cases h), (fun f h => by cases h), (aAllc ⟨_, rfl, (fF_b (r := 1138) (by decide) rfl).mpr q0⟩ (fun f h => by cases h))⟩, [], List.mem_cons_self, fun f h => (by cases h)⟩
set_option maxRecDepth 8192 in
theorem rw_ruHLz {K : Nat → Nat} {n : Nat} : aGho (fF K n) fa_T K n (fJX K n) ag_ruHLz := by
  refine aGho_of ⟨rfl, rfl⟩ ?_
  intro p σ ρ hH hX hA hM
  have hG := aAG_of hA.1 (fun i e v he hv => (hA.2 i e v he hv).1)
  clear hA
  obtain ⟨v0, v1, v2, v3, v4, rfl, g0, g1, g2, g3, g4⟩ := fA_5 hG
  clear hG
  obtain ⟨x0, rfl, b0, d0⟩ := fG_ref (by decide) g0
  obtain ⟨x1, rfl, b1, d1⟩ := aG_int g1
  dsimp only at b1 d1
  obtain ⟨x2, rfl, b2, d2⟩ := fG_ref (by decide) g2
  obtain ⟨x3, rfl, b3, d3⟩ := aG_int g3
  dsimp only at b3 d3
  obtain ⟨x4, rfl, b4, d4⟩ := aG_int g4
  dsimp only at b4 d4
  obtain ⟨m1, m2, m3, m4⟩ := hM
  obtain ⟨a0, c0, fs0, w0, e1, s0, t0, e4⟩ := m1 (0, 4, 2) (List.mem_of_getElem? (i := 0) rfl)
  obtain rfl : x0 = a0 := Sum.inl.inj (Option.some.inj (Sum.inr.inj (Sum.inr.inj (Option.some.inj (show some (fR x0) = some _ from e1)))))
  obtain rfl : fR x2 = w0 := Option.some.inj (show some (fR x2) = some w0 from e4)
  clear e1 e4
  obtain ⟨a1, c1, fs1, w1, e1, s1, t1, e4⟩ := m1 (0, 9, 3) (List.mem_of_getElem? (i := 1) rfl)
  obtain rfl : x0 = a1 := Sum.inl.inj (Option.some.inj (Sum.inr.inj (Sum.inr.inj (Option.some.inj (show some (fR x0) = some _ from e1)))))
  obtain rfl : fI x3 = w1 := Option.some.inj (show some (fI x3) = some w1 from e4)
  clear e1 e4
  obtain ⟨a2, c2, fs2, w2, e1, s2, t2, e4⟩ := m1 (0, 3, 4) (List.mem_of_getElem? (i := 2) rfl)
  obtain rfl : x0 = a2 := Sum.inl.inj (Option.some.inj (Sum.inr.inj (Sum.inr.inj (Option.some.inj (show some (fR x0) = some _ from e1)))))
  obtain rfl : fI x4 = w2 := Option.some.inj (show some (fI x4) = some w2 from e4)
  clear e1 e4
  clear m1 m2 m3 m4
  obtain ⟨g, w⟩ := fPc_mk hH b0 d0 s0 t0 b2 d2
  have q0 : fB K n (p) 71 [fR x0, fI x1] σ := by
    exact ⟨_, _, _, _, g, rfl, w, ⟨b0, d0, _, _, s1, t1⟩, ⟨b0, d0, _, _, s2, t2⟩, Or.inl (by omega)⟩
  exact ⟨p, fun _ => rfl, ⟨(fun q h => by cases h), fun q h => (by cases h), (fun f h => by cases h), (aAllc ⟨_, rfl, (fF_b (r := 1138) (by decide) rfl).mpr q0⟩ (fun f h => by cases h))⟩, [], List.mem_cons_self, fun f h => (by cases h)⟩
set_option maxRecDepth 8192 in
theorem rw_ruHLs1 {K : Nat → Nat} {n : Nat} : aGho (fF K n) fa_T K n (fJX K n) ag_ruHLs1 := by
  refine aGho_of ⟨rfl, rfl⟩ ?_
  intro p σ ρ hH hX hA hM
  have hG := aAG_of hA.1 (fun i e v he hv => (hA.2 i e v he hv).1)
  clear hA
  obtain ⟨v0, v1, v2, v3, v4, v5, rfl, g0, g1, g2, g3, g4, g5⟩ := fA_6 hG
  clear hG
  obtain ⟨x0, rfl, b0, d0⟩ := fG_ref (by decide) g0
  obtain ⟨x1, rfl, b1, d1⟩ := aG_int g1
  dsimp only at b1 d1
  obtain ⟨x2, rfl, b2, d2⟩ := aG_int g2
  dsimp only at b2 d2
  obtain ⟨x3, rfl, b3, d3⟩ := aG_int g3
  dsimp only at b3 d3
  obtain ⟨x4, rfl, b4, d4⟩ := fG_ref (by decide) g4
  obtain ⟨x5, rfl, b5, d5⟩ := aG_int g5
  dsimp only at b5 d5
  obtain ⟨m1, m2, m3, m4⟩ := hM
  obtain ⟨a0, c0, fs0, w0, e1, s0, t0, e4⟩ := m1 (0, 4, 4) (List.mem_of_getElem? (i := 0) rfl)
  obtain rfl : x0 = a0 := Sum.inl.inj (Option.some.inj (Sum.inr.inj (Sum.inr.inj (Option.some.inj (show some (fR x0) = some _ from e1)))))
  obtain rfl : fR x4 = w0 := Option.some.inj (show some (fR x4) = some w0 from e4)
  clear e1 e4
  obtain ⟨a1, c1, fs1, w1, e1, s1, t1, e4⟩ := m1 (0, 9, 5) (List.mem_of_getElem? (i := 1) rfl)
  obtain rfl : x0 = a1 := Sum.inl.inj (Option.some.inj (Sum.inr.inj (Sum.inr.inj (Option.some.inj (show some (fR x0) = some _ from e1)))))
  obtain rfl : fI x5 = w1 := Option.some.inj (show some (fI x5) = some w1 from e4)
  clear e1 e4
  obtain ⟨a, mc0, ty0, gc0, ic0, e1, sc0, jc0, e4, e5⟩ := m2 (4, ([(1, -1)], 2), 3) (List.mem_of_getElem? (i := 0) rfl)
  obtain rfl : x4 = a := Sum.inl.inj (Option.some.inj (Sum.inr.inj (Sum.inr.inj (Option.some.inj (show some (fR x4) = some _ from e1)))))
  obtain ⟨gc0, rfl⟩ : ∃ g, gc0 = .inl g := by
    rcases gc0 with g | g
    · exact ⟨g, rfl⟩
    · exact absurd (show some (fI x3) = some (.inr (.inl (g ic0))) from e5) (fun h => by cases h)
  have sc0 : σ x4 = .inl (ty0, mc0, .inl gc0) := sc0
  have ec0 : x3 = gc0 ic0 := Sum.inl.inj (Option.some.inj (show some (fI x3) = some _ from e5))
  have kc0 : (ic0 : Int) = (-1 * x1.toInt + 0) + 2 := by
    obtain ⟨z, e6, e7⟩ := e4
    obtain rfl : (-1 * x1.toInt + 0) = z := Option.some.inj (show some (-1 * x1.toInt + 0) = some z from e6)
    exact e7
  clear e1 e4 e5
  have l0 : 0 ≤ (1 * x2.toInt + (-1 * x1.toInt + 0)) + 1 := by
    obtain ⟨z, e6, e7⟩ := m3 ([(2, 1), (1, -1)], 1) (List.mem_of_getElem? (i := 0) rfl)
    obtain rfl : (1 * x2.toInt + (-1 * x1.toInt + 0)) = z := Option.some.inj (show some (1 * x2.toInt + (-1 * x1.toInt + 0)) = some z from e6)
    exact e7
  have l1 : 0 ≤ (-1 * x2.toInt + (1 * x1.toInt + 0)) + -1 := by
    obtain ⟨z, e6, e7⟩ := m3 ([(2, -1), (1, 1)], -1) (List.mem_of_getElem? (i := 1) rfl)
    obtain rfl : (-1 * x2.toInt + (1 * x1.toInt + 0)) = z := Option.some.inj (show some (-1 * x2.toInt + (1 * x1.toInt + 0)) = some z from e6)
    exact e7
  have l2 : 0 ≤ (1 * x1.toInt + 0) + -1 := by
    obtain ⟨z, e6, e7⟩ := m3 ([(1, 1)], -1) (List.mem_of_getElem? (i := 2) rfl)
    obtain rfl : (1 * x1.toInt + 0) = z := Option.some.inj (show some (1 * x1.toInt + 0) = some z from e6)
    exact e7
  have l3 : 0 ≤ (-1 * x1.toInt + 0) + 2 := by
    obtain ⟨z, e6, e7⟩ := m3 ([(1, -1)], 2) (List.mem_of_getElem? (i := 3) rfl)
    obtain rfl : (-1 * x1.toInt + 0) = z := Option.some.inj (show some (-1 * x1.toInt + 0) = some z from e6)
    exact e7
  have f0 : fB K n p 3 [fI x3] σ := by
    obtain ⟨w, e6, e7⟩ := m4 (49, [3]) (List.mem_of_getElem? (i := 0) rfl)
    obtain rfl : [fI x3] = w := Option.some.inj (show some [fI x3] = some w from e6)
    exact (fF_b (r := 49) (by decide) rfl).mp e7
  have f1 : fB K n (fSh p [fI x3]) 71 [fR x0, fI x2] σ := by
    obtain ⟨w, e6, e7⟩ := m4 (1138, [0, 2, 3]) (List.mem_of_getElem? (i := 1) rfl)
    obtain rfl : [fR x0, fI x2, fI x3] = w := Option.some.inj (show some [fR x0, fI x2, fI x3] = some w from e6)
    exact (fF_g (r := 1138) (by decide)).mp e7
  clear m1 m2 m3 m4
  obtain ⟨m9, e9, M⟩ := f0
  cases e9
  obtain ⟨a, lf, A, fd, g, e, w, o1, o2, hl⟩ := f1
  cases e
  obtain rfl := fOb_i o1 s1 t1
  obtain rfl := fPc_c w s0 t0 sc0
  have q0 : fB K n (p) 71 [fR x0, fI x1] σ := by
    refine ⟨_, _, _, fd, gc0, rfl, w, o1, o2, ?_⟩
    rcases hl with hl | ⟨⟨q, hq⟩, hl⟩
    · exact Or.inl hl
    · obtain ⟨q', rfl, hq'⟩ := fSh_1 hq
      refine Or.inr ⟨⟨q', rfl⟩, ?_⟩
      rw [show x1.toInt.toNat = x2.toInt.toNat + 1 by omega, fLn_s, show (2 * x5.toInt - x1.toInt).toNat = ic0 by omega, ← ec0]
      refine ⟨M, ?_⟩
      have e9 : fq (fSh (.inl q') [fI x3]) = fPl (fq (.inl q')) x3 := rfl
      rw [e9, show (2 * x5.toInt - x2.toInt).toNat = ic0 + 1 by omega] at hl
      exact hl
  exact ⟨p, fun _ => rfl, ⟨(fun q h => by cases h), fun q h => (by cases h), (fun f h => by cases h), (aAllc ⟨_, rfl, (fF_b (r := 1138) (by decide) rfl).mpr q0⟩ (fun f h => by cases h))⟩, [], List.mem_cons_self, fun f h => (by cases h)⟩
set_option maxRecDepth 8192 in
theorem rw_ruHLs2 {K : Nat → Nat} {n : Nat} : aGho (fF K n) fa_T K n (fJX K n) ag_ruHLs2 := by
  refine aGho_of ⟨rfl, rfl⟩ ?_
  intro p σ ρ hH hX hA hM
  have hG := aAG_of hA.1 (fun i e v he hv => (hA.2 i e v he hv).1)
  clear hA
  obtain ⟨v0, v1, v2, v3, v4, v5, rfl, g0, g1, g2, g3, g4, g5⟩ := fA_6 hG
  clear hG
  obtain ⟨x0, rfl, b0, d0⟩ := fG_ref (by decide) g0
  obtain ⟨x1, rfl, b1, d1⟩ := aG_int g1
  dsimp only at b1 d1
  obtain ⟨x2, rfl, b2, d2⟩ := aG_int g2
  dsimp only at b2 d2
  obtain ⟨x3, rfl, b3, d3⟩ := aG_int g3
  dsimp only at b3 d3
  obtain ⟨x4, rfl, b4, d4⟩ := fG_ref (by decide) g4
  obtain ⟨x5, rfl, b5, d5⟩ := aG_int g5
  dsimp only at b5 d5
  obtain ⟨m1, m2, m3, m4⟩ := hM
  obtain ⟨a0, c0, fs0, w0, e1, s0, t0, e4⟩ := m1 (0, 4, 4) (List.mem_of_getElem? (i := 0) rfl)
  obtain rfl : x0 = a0 := Sum.inl.inj (Option.some.inj (Sum.inr.inj (Sum.inr.inj (Option.some.inj (show some (fR x0) = some _ from e1)))))
  obtain rfl : fR x4 = w0 := Option.some.inj (show some (fR x4) = some w0 from e4)
  clear e1 e4
  obtain ⟨a1, c1, fs1, w1, e1, s1, t1, e4⟩ := m1 (0, 9, 5) (List.mem_of_getElem? (i := 1) rfl)
  obtain rfl : x0 = a1 := Sum.inl.inj (Option.some.inj (Sum.inr.inj (Sum.inr.inj (Option.some.inj (show some (fR x0) = some _ from e1)))))
  obtain rfl : fI x5 = w1 := Option.some.inj (show some (fI x5) = some w1 from e4)
  clear e1 e4
  obtain ⟨a, mc0, ty0, gc0, ic0, e1, sc0, jc0, e4, e5⟩ := m2 (4, ([(1, -1)], 4), 3) (List.mem_of_getElem? (i := 0) rfl)
  obtain rfl : x4 = a := Sum.inl.inj (Option.some.inj (Sum.inr.inj (Sum.inr.inj (Option.some.inj (show some (fR x4) = some _ from e1)))))
  obtain ⟨gc0, rfl⟩ : ∃ g, gc0 = .inl g := by
    rcases gc0 with g | g
    · exact ⟨g, rfl⟩
    · exact absurd (show some (fI x3) = some (.inr (.inl (g ic0))) from e5) (fun h => by cases h)
  have sc0 : σ x4 = .inl (ty0, mc0, .inl gc0) := sc0
  have ec0 : x3 = gc0 ic0 := Sum.inl.inj (Option.some.inj (show some (fI x3) = some _ from e5))
  have kc0 : (ic0 : Int) = (-1 * x1.toInt + 0) + 4 := by
    obtain ⟨z, e6, e7⟩ := e4
    obtain rfl : (-1 * x1.toInt + 0) = z := Option.some.inj (show some (-1 * x1.toInt + 0) = some z from e6)
    exact e7
  clear e1 e4 e5
  have l0 : 0 ≤ (1 * x2.toInt + (-1 * x1.toInt + 0)) + 1 := by
    obtain ⟨z, e6, e7⟩ := m3 ([(2, 1), (1, -1)], 1) (List.mem_of_getElem? (i := 0) rfl)
    obtain rfl : (1 * x2.toInt + (-1 * x1.toInt + 0)) = z := Option.some.inj (show some (1 * x2.toInt + (-1 * x1.toInt + 0)) = some z from e6)
    exact e7
  have l1 : 0 ≤ (-1 * x2.toInt + (1 * x1.toInt + 0)) + -1 := by
    obtain ⟨z, e6, e7⟩ := m3 ([(2, -1), (1, 1)], -1) (List.mem_of_getElem? (i := 1) rfl)
    obtain rfl : (-1 * x2.toInt + (1 * x1.toInt + 0)) = z := Option.some.inj (show some (-1 * x2.toInt + (1 * x1.toInt + 0)) = some z from e6)
    exact e7
  have l2 : 0 ≤ (1 * x1.toInt + 0) + -1 := by
    obtain ⟨z, e6, e7⟩ := m3 ([(1, 1)], -1) (List.mem_of_getElem? (i := 2) rfl)
    obtain rfl : (1 * x1.toInt + 0) = z := Option.some.inj (show some (1 * x1.toInt + 0) = some z from e6)
    exact e7
  have l3 : 0 ≤ (-1 * x1.toInt + 0) + 4 := by
    obtain ⟨z, e6, e7⟩ := m3 ([(1, -1)], 4) (List.mem_of_getElem? (i := 3) rfl)
    obtain rfl : (-1 * x1.toInt + 0) = z := Option.some.inj (show some (-1 * x1.toInt + 0) = some z from e6)
    exact e7
  have f0 : fB K n p 3 [fI x3] σ := by
    obtain ⟨w, e6, e7⟩ := m4 (49, [3]) (List.mem_of_getElem? (i := 0) rfl)
    obtain rfl : [fI x3] = w := Option.some.inj (show some [fI x3] = some w from e6)
    exact (fF_b (r := 49) (by decide) rfl).mp e7
  have f1 : fB K n (fSh p [fI x3]) 71 [fR x0, fI x2] σ := by
    obtain ⟨w, e6, e7⟩ := m4 (1138, [0, 2, 3]) (List.mem_of_getElem? (i := 1) rfl)
    obtain rfl : [fR x0, fI x2, fI x3] = w := Option.some.inj (show some [fR x0, fI x2, fI x3] = some w from e6)
    exact (fF_g (r := 1138) (by decide)).mp e7
  clear m1 m2 m3 m4
  obtain ⟨m9, e9, M⟩ := f0
  cases e9
  obtain ⟨a, lf, A, fd, g, e, w, o1, o2, hl⟩ := f1
  cases e
  obtain rfl := fOb_i o1 s1 t1
  obtain rfl := fPc_c w s0 t0 sc0
  have q0 : fB K n (p) 71 [fR x0, fI x1] σ := by
    refine ⟨_, _, _, fd, gc0, rfl, w, o1, o2, ?_⟩
    rcases hl with hl | ⟨⟨q, hq⟩, hl⟩
    · exact Or.inl hl
    · obtain ⟨q', rfl, hq'⟩ := fSh_1 hq
      refine Or.inr ⟨⟨q', rfl⟩, ?_⟩
      rw [show x1.toInt.toNat = x2.toInt.toNat + 1 by omega, fLn_s, show (2 * x5.toInt - x1.toInt).toNat = ic0 by omega, ← ec0]
      refine ⟨M, ?_⟩
      have e9 : fq (fSh (.inl q') [fI x3]) = fPl (fq (.inl q')) x3 := rfl
      rw [e9, show (2 * x5.toInt - x2.toInt).toNat = ic0 + 1 by omega] at hl
      exact hl
  exact ⟨p, fun _ => rfl, ⟨(fun q h => by cases h), fun q h => (by cases h), (fun f h => by cases h), (aAllc ⟨_, rfl, (fF_b (r := 1138) (by decide) rfl).mpr q0⟩ (fun f h => by cases h))⟩, [], List.mem_cons_self, fun f h => (by cases h)⟩
set_option maxRecDepth 8192 in
theorem rw_ruHLx {K : Nat → Nat} {n : Nat} : aGho (fF K n) fa_T K n (fJX K n) ag_ruHLx := by
  refine aGho_of ⟨rfl, rfl⟩ ?_
  intro p σ ρ hH hX hA hM
  have hG := aAG_of hA.1 (fun i e v he hv => (hA.2 i e v he hv).1)
  clear hA
  obtain ⟨v0, v1, v2, v3, v4, rfl, g0, g1, g2, g3, g4⟩ := fA_5 hG
  clear hG
  obtain ⟨x0, rfl, b0, d0⟩ := fG_ref (by decide) g0
  obtain ⟨x1, rfl, b1, d1⟩ := aG_int g1
  dsimp only at b1 d1
  obtain ⟨x2, rfl, b2, d2⟩ := aG_int g2
  dsimp only at b2 d2
  obtain ⟨x3, rfl, b3, d3⟩ := aG_int g3
  dsimp only at b3 d3
  obtain ⟨x4, rfl, b4, d4⟩ := aG_int g4
  dsimp only at b4 d4
  obtain ⟨m1, m2, m3, m4⟩ := hM
  obtain ⟨a0, c0, fs0, w0, e1, s0, t0, e4⟩ := m1 (0, 9, 3) (List.mem_of_getElem? (i := 0) rfl)
  obtain rfl : x0 = a0 := Sum.inl.inj (Option.some.inj (Sum.inr.inj (Sum.inr.inj (Option.some.inj (show some (fR x0) = some _ from e1)))))
  obtain rfl : fI x3 = w0 := Option.some.inj (show some (fI x3) = some w0 from e4)
  clear e1 e4
  obtain ⟨a1, c1, fs1, w1, e1, s1, t1, e4⟩ := m1 (0, 3, 4) (List.mem_of_getElem? (i := 1) rfl)
  obtain rfl : x0 = a1 := Sum.inl.inj (Option.some.inj (Sum.inr.inj (Sum.inr.inj (Option.some.inj (show some (fR x0) = some _ from e1)))))
  obtain rfl : fI x4 = w1 := Option.some.inj (show some (fI x4) = some w1 from e4)
  clear e1 e4
  have l0 : 0 ≤ (1 * x1.toInt + (-2 * x3.toInt + 0)) + 0 := by
    obtain ⟨z, e6, e7⟩ := m3 ([(1, 1), (3, -2)], 0) (List.mem_of_getElem? (i := 0) rfl)
    obtain rfl : (1 * x1.toInt + (-2 * x3.toInt + 0)) = z := Option.some.inj (show some (1 * x1.toInt + (-2 * x3.toInt + 0)) = some z from e6)
    exact e7
  have l1 : 0 ≤ (-1 * x1.toInt + (2 * x3.toInt + 0)) + 0 := by
    obtain ⟨z, e6, e7⟩ := m3 ([(1, -1), (3, 2)], 0) (List.mem_of_getElem? (i := 1) rfl)
    obtain rfl : (-1 * x1.toInt + (2 * x3.toInt + 0)) = z := Option.some.inj (show some (-1 * x1.toInt + (2 * x3.toInt + 0)) = some z from e6)
    exact e7
  have f0 : fB K n p 71 [fR x0, fI x1] σ := by
    obtain ⟨w, e6, e7⟩ := m4 (1138, [0, 1]) (List.mem_of_getElem? (i := 0) rfl)
    obtain rfl : [fR x0, fI x1] = w := Option.some.inj (show some [fR x0, fI x1] = some w from e6)
    exact (fF_b (r := 1138) (by decide) rfl).mp e7
  clear m1 m2 m3 m4
  obtain ⟨a, lf, A, fd, g, e, w, o1, o2, hl⟩ := f0
  cases e
  obtain rfl := fOb_i o1 s0 t0
  obtain rfl := fOb_i o2 s1 t1
  obtain ⟨hq, hl⟩ := hl.resolve_left (by omega)
  have q0 : fB K n (p) 72 [fR x0, fI x2] σ := by
    refine ⟨_, _, _, g, rfl, w, o1, hq, ?_⟩
    rw [show x2.toInt.toNat = (2 * x3.toInt - x1.toInt).toNat by omega, show (2 * x3.toInt - x2.toInt).toNat = x1.toInt.toNat by omega]
    exact hl
  exact ⟨p, fun _ => rfl, ⟨(fun q h => by cases h), fun q h => (by cases h), (fun f h => by cases h), (aAllc ⟨_, rfl, (fF_b (r := 1154) (by decide) rfl).mpr q0⟩ (fun f h => by cases h))⟩, [], List.mem_cons_self, fun f h => (by cases h)⟩
set_option maxRecDepth 8192 in
theorem rw_ruHLm {K : Nat → Nat} {n : Nat} : aGho (fF K n) fa_T K n (fJX K n) ag_ruHLm := by
  refine aGho_of ⟨rfl, rfl⟩ ?_
  intro p σ ρ hH hX hA hM
  have hG := aAG_of hA.1 (fun i e v he hv => (hA.2 i e v he hv).1)
  clear hA
  obtain ⟨v0, v1, v2, v3, v4, rfl, g0, g1, g2, g3, g4⟩ := fA_5 hG
  clear hG
  obtain ⟨x0, rfl, b0, d0⟩ := fG_ref (by decide) g0
  obtain ⟨x1, rfl, b1, d1⟩ := aG_int g1
  dsimp only at b1 d1
  obtain ⟨x2, rfl, b2, d2⟩ := aG_int g2
  dsimp only at b2 d2
  obtain ⟨x3, rfl, b3, d3⟩ := fG_ref (by decide) g3
  obtain ⟨x4, rfl, b4, d4⟩ := aG_int g4
  dsimp only at b4 d4
  obtain ⟨m1, m2, m3, m4⟩ := hM
  obtain ⟨a0, c0, fs0, w0, e1, s0, t0, e4⟩ := m1 (0, 4, 3) (List.mem_of_getElem? (i := 0) rfl)
  obtain rfl : x0 = a0 := Sum.inl.inj (Option.some.inj (Sum.inr.inj (Sum.inr.inj (Option.some.inj (show some (fR x0) = some _ from e1)))))
  obtain rfl : fR x3 = w0 := Option.some.inj (show some (fR x3) = some w0 from e4)
  clear e1 e4
  obtain ⟨a1, c1, fs1, w1, e1, s1, t1, e4⟩ := m1 (0, 9, 4) (List.mem_of_getElem? (i := 1) rfl)
  obtain rfl : x0 = a1 := Sum.inl.inj (Option.some.inj (Sum.inr.inj (Sum.inr.inj (Option.some.inj (show some (fR x0) = some _ from e1)))))
  obtain rfl : fI x4 = w1 := Option.some.inj (show some (fI x4) = some w1 from e4)
  clear e1 e4
  obtain ⟨a, mc0, ty0, gc0, ic0, e1, sc0, jc0, e4, e5⟩ := m2 (3, ([(1, 1)], 0), 2) (List.mem_of_getElem? (i := 0) rfl)
  obtain rfl : x3 = a := Sum.inl.inj (Option.some.inj (Sum.inr.inj (Sum.inr.inj (Option.some.inj (show some (fR x3) = some _ from e1)))))
  obtain ⟨gc0, rfl⟩ : ∃ g, gc0 = .inl g := by
    rcases gc0 with g | g
    · exact ⟨g, rfl⟩
    · exact absurd (show some (fI x2) = some (.inr (.inl (g ic0))) from e5) (fun h => by cases h)
  have sc0 : σ x3 = .inl (ty0, mc0, .inl gc0) := sc0
  have ec0 : x2 = gc0 ic0 := Sum.inl.inj (Option.some.inj (show some (fI x2) = some _ from e5))
  have kc0 : (ic0 : Int) = (1 * x1.toInt + 0) + 0 := by
    obtain ⟨z, e6, e7⟩ := e4
    obtain rfl : (1 * x1.toInt + 0) = z := Option.some.inj (show some (1 * x1.toInt + 0) = some z from e6)
    exact e7
  clear e1 e4 e5
  obtain rfl : ic0 = x1.toInt.toNat := by omega
  have l0 : 0 ≤ (2 * x4.toInt + (-1 * x1.toInt + 0)) + -1 := by
    obtain ⟨z, e6, e7⟩ := m3 ([(4, 2), (1, -1)], -1) (List.mem_of_getElem? (i := 0) rfl)
    obtain rfl : (2 * x4.toInt + (-1 * x1.toInt + 0)) = z := Option.some.inj (show some (2 * x4.toInt + (-1 * x1.toInt + 0)) = some z from e6)
    exact e7
  have f0 : fB K n p 72 [fR x0, fI x1] σ := by
    obtain ⟨w, e6, e7⟩ := m4 (1154, [0, 1]) (List.mem_of_getElem? (i := 0) rfl)
    obtain rfl : [fR x0, fI x1] = w := Option.some.inj (show some [fR x0, fI x1] = some w from e6)
    exact (fF_b (r := 1154) (by decide) rfl).mp e7
  clear m1 m2 m3 m4
  obtain ⟨a, i, A, g, e, w, o1, ⟨q, hq⟩, hl⟩ := f0
  cases e
  subst hq
  obtain rfl := fOb_i o1 s1 t1
  obtain rfl := fPc_c w s0 t0 sc0
  obtain ⟨k, hk⟩ : ∃ k, (2 * x4.toInt - x1.toInt).toNat = k + 1 := ⟨(2 * x4.toInt - x1.toInt).toNat - 1, by omega⟩
  rw [hk, fLn_s] at hl
  have q0 : fB K n (.inl q) 3 [fI x2] σ := by
    rw [ec0]
    exact ⟨_, rfl, hl.1⟩
  exact ⟨.inl q, fun _ => rfl, ⟨(fun q h => by cases h), fun q h => (by cases h), (fun f h => by cases h), (aAllc ⟨_, rfl, (fF_b (r := 49) (by decide) rfl).mpr q0⟩ (fun f h => by cases h))⟩, [], List.mem_cons_self, fun f h => (by cases h)⟩
set_option maxRecDepth 8192 in
theorem rw_ruHLn {K : Nat → Nat} {n : Nat} : aGho (fF K n) fa_T K n (fJX K n) ag_ruHLn := by
  refine aGho_of ⟨rfl, rfl⟩ ?_
  intro p σ ρ hH hX hA hM
  have hG := aAG_of hA.1 (fun i e v he hv => (hA.2 i e v he hv).1)
  clear hA
  obtain ⟨v0, v1, v2, v3, v4, v5, rfl, g0, g1, g2, g3, g4, g5⟩ := fA_6 hG
  clear hG
  obtain ⟨x0, rfl, b0, d0⟩ := fG_ref (by decide) g0
  obtain ⟨x1, rfl, b1, d1⟩ := aG_int g1
  dsimp only at b1 d1
  obtain ⟨x2, rfl, b2, d2⟩ := aG_int g2
  dsimp only at b2 d2
  obtain ⟨x3, rfl, b3, d3⟩ := aG_int g3
  dsimp only at b3 d3
  obtain ⟨x4, rfl, b4, d4⟩ := fG_ref (by decide) g4
  obtain ⟨x5, rfl, b5, d5⟩ := aG_int g5
  dsimp only at b5 d5
  obtain ⟨m1, m2, m3, m4⟩ := hM
  obtain ⟨a0, c0, fs0, w0, e1, s0, t0, e4⟩ := m1 (0, 4, 4) (List.mem_of_getElem? (i := 0) rfl)
  obtain rfl : x0 = a0 := Sum.inl.inj (Option.some.inj (Sum.inr.inj (Sum.inr.inj (Option.some.inj (show some (fR x0) = some _ from e1)))))
  obtain rfl : fR x4 = w0 := Option.some.inj (show some (fR x4) = some w0 from e4)
  clear e1 e4
  obtain ⟨a1, c1, fs1, w1, e1, s1, t1, e4⟩ := m1 (0, 9, 5) (List.mem_of_getElem? (i := 1) rfl)
  obtain rfl : x0 = a1 := Sum.inl.inj (Option.some.inj (Sum.inr.inj (Sum.inr.inj (Option.some.inj (show some (fR x0) = some _ from e1)))))
  obtain rfl : fI x5 = w1 := Option.some.inj (show some (fI x5) = some w1 from e4)
  clear e1 e4
  obtain ⟨a, mc0, ty0, gc0, ic0, e1, sc0, jc0, e4, e5⟩ := m2 (4, ([(1, 1)], 0), 3) (List.mem_of_getElem? (i := 0) rfl)
  obtain rfl : x4 = a := Sum.inl.inj (Option.some.inj (Sum.inr.inj (Sum.inr.inj (Option.some.inj (show some (fR x4) = some _ from e1)))))
  obtain ⟨gc0, rfl⟩ : ∃ g, gc0 = .inl g := by
    rcases gc0 with g | g
    · exact ⟨g, rfl⟩
    · exact absurd (show some (fI x3) = some (.inr (.inl (g ic0))) from e5) (fun h => by cases h)
  have sc0 : σ x4 = .inl (ty0, mc0, .inl gc0) := sc0
  have ec0 : x3 = gc0 ic0 := Sum.inl.inj (Option.some.inj (show some (fI x3) = some _ from e5))
  have kc0 : (ic0 : Int) = (1 * x1.toInt + 0) + 0 := by
    obtain ⟨z, e6, e7⟩ := e4
    obtain rfl : (1 * x1.toInt + 0) = z := Option.some.inj (show some (1 * x1.toInt + 0) = some z from e6)
    exact e7
  clear e1 e4 e5
  obtain rfl : ic0 = x1.toInt.toNat := by omega
  have l0 : 0 ≤ (1 * x2.toInt + (-1 * x1.toInt + 0)) + -1 := by
    obtain ⟨z, e6, e7⟩ := m3 ([(2, 1), (1, -1)], -1) (List.mem_of_getElem? (i := 0) rfl)
    obtain rfl : (1 * x2.toInt + (-1 * x1.toInt + 0)) = z := Option.some.inj (show some (1 * x2.toInt + (-1 * x1.toInt + 0)) = some z from e6)
    exact e7
  have l1 : 0 ≤ (-1 * x2.toInt + (1 * x1.toInt + 0)) + 1 := by
    obtain ⟨z, e6, e7⟩ := m3 ([(2, -1), (1, 1)], 1) (List.mem_of_getElem? (i := 1) rfl)
    obtain rfl : (-1 * x2.toInt + (1 * x1.toInt + 0)) = z := Option.some.inj (show some (-1 * x2.toInt + (1 * x1.toInt + 0)) = some z from e6)
    exact e7
  have l2 : 0 ≤ (2 * x5.toInt + (-1 * x1.toInt + 0)) + -1 := by
    obtain ⟨z, e6, e7⟩ := m3 ([(5, 2), (1, -1)], -1) (List.mem_of_getElem? (i := 2) rfl)
    obtain rfl : (2 * x5.toInt + (-1 * x1.toInt + 0)) = z := Option.some.inj (show some (2 * x5.toInt + (-1 * x1.toInt + 0)) = some z from e6)
    exact e7
  have f0 : fB K n p 72 [fR x0, fI x1] σ := by
    obtain ⟨w, e6, e7⟩ := m4 (1154, [0, 1]) (List.mem_of_getElem? (i := 0) rfl)
    obtain rfl : [fR x0, fI x1] = w := Option.some.inj (show some [fR x0, fI x1] = some w from e6)
    exact (fF_b (r := 1154) (by decide) rfl).mp e7
  clear m1 m2 m3 m4
  obtain ⟨a, i, A, g, e, w, o1, ⟨q, hq⟩, hl⟩ := f0
  cases e
  subst hq
  obtain rfl := fOb_i o1 s1 t1
  obtain rfl := fPc_c w s0 t0 sc0
  obtain ⟨k, hk⟩ : ∃ k, (2 * x5.toInt - x1.toInt).toNat = k + 1 := ⟨(2 * x5.toInt - x1.toInt).toNat - 1, by omega⟩
  rw [hk, fLn_s] at hl
  have q0 : fB K n (fSh (.inl q) [fI x3]) 72 [fR x0, fI x2] σ := by
    refine ⟨_, _, _, gc0, rfl, w, o1, ⟨_, rfl⟩, ?_⟩
    rw [show (2 * x5.toInt - x2.toInt).toNat = k by omega, show x2.toInt.toNat = x1.toInt.toNat + 1 by omega]
    have h9 := hl.2
    rw [← ec0] at h9
    exact h9
  exact ⟨.inl q, fun _ => rfl, ⟨(fun q h => by cases h), fun q h => (by cases h), (fun f h => by cases h), (aAllc ⟨_, rfl, (fF_g (r := 1154) (by decide)).mpr q0⟩ (fun f h => by cases h))⟩, [], List.mem_cons_self, fun f h => (by cases h)⟩
set_option maxRecDepth 8192 in
theorem rw_ruUN0 {K : Nat → Nat} {n : Nat} : aGho (fF K n) fa_T K n (fJX K n) ag_ruUN0 := by
  refine aGho_of ⟨rfl, rfl⟩ ?_
  intro p σ ρ hH hX hA hM
  have hG := aAG_of hA.1 (fun i e v he hv => (hA.2 i e v he hv).1)
  clear hA
  obtain ⟨v0, v1, v2, v3, v4, rfl, g0, g1, g2, g3, g4⟩ := fA_5 hG
  clear hG
  obtain ⟨x0, rfl, b0, d0⟩ := aG_int g0
  dsimp only at b0 d0
  obtain ⟨x1, rfl, b1, d1⟩ := fG_ref (by decide) g1
  obtain ⟨x2, rfl, b2, d2⟩ := aG_int g2
  dsimp only at b2 d2
  obtain ⟨x3, rfl⟩ := aG_lng g3
  obtain ⟨x4, rfl, b4, d4⟩ := fG_ref (by decide) g4
  obtain ⟨m1, m2, m3, m4⟩ := hM
  obtain ⟨a0, c0, fs0, w0, e1, s0, t0, e4⟩ := m1 (1, 5, 4) (List.mem_of_getElem? (i := 0) rfl)
  obtain rfl : x1 = a0 := Sum.inl.inj (Option.some.inj (Sum.inr.inj (Sum.inr.inj (Option.some.inj (show some (fR x1) = some _ from e1)))))
  obtain rfl : fR x4 = w0 := Option.some.inj (show some (fR x4) = some w0 from e4)
  clear e1 e4
  have f0 : fB K n p 4 [fI x2, (.inr (.inl x3) : jv)] σ := by
    obtain ⟨w, e6, e7⟩ := m4 (66, [2, 3]) (List.mem_of_getElem? (i := 0) rfl)
    obtain rfl : [fI x2, (.inr (.inl x3) : jv)] = w := Option.some.inj (show some [fI x2, (.inr (.inl x3) : jv)] = some w from e6)
    exact (fF_b (r := 66) (by decide) rfl).mp e7
  clear m1 m2 m3 m4
  obtain ⟨mu, u, eu, hu1, hu2, hu3⟩ := f0
  cases eu
  obtain ⟨g, w⟩ := fPu_mk hH b1 d1 s0 t0 b4 d4
  have q0 : fB K n (fSh (p) []) 73 [fR x1, fI x2] (jup σ x4 (jstl (σ x4) x0.toNatClampNeg x3)) := by
    refine ⟨_, _, vp_updL g x0.toInt.toNat x3, rfl, fPu_st w s0 t0, ?_, hu3⟩
    have e9 : vp_updL g x0.toInt.toNat x3 0 = x3 := by unfold vp_updL; rw [if_pos (by omega)]
    rw [e9]
    exact ⟨hu1, hu2⟩
  exact ⟨p, fun _ => rfl, ⟨(fun q h => by cases h), fun q h => (by cases h), (fun f h => by cases h), (aAllc ⟨_, rfl, fF_pl (r := 1170) (by decide) (by decide) (Nat.le_of_ble_eq_true rfl) q0⟩ (fun f h => by cases h))⟩, [], List.mem_cons_self, fun f h => (by cases h)⟩
set_option maxRecDepth 8192 in
theorem rw_ruUK0 {K : Nat → Nat} {n : Nat} : aGho (fF K n) fa_T K n (fJX K n) ag_ruUK0 := by
  refine aGho_of ⟨rfl, rfl⟩ ?_
  intro p σ ρ hH hX hA hM
  have hG := aAG_of hA.1 (fun i e v he hv => (hA.2 i e v he hv).1)
  clear hA
  obtain ⟨v0, v1, v2, v3, v4, rfl, g0, g1, g2, g3, g4⟩ := fA_5 hG
  clear hG
  obtain ⟨x0, rfl, b0, d0⟩ := aG_int g0
  dsimp only at b0 d0
  obtain ⟨x1, rfl, b1, d1⟩ := fG_ref (by decide) g1
  obtain ⟨x2, rfl, b2, d2⟩ := fG_ref (by decide) g2
  obtain ⟨x3, rfl⟩ := aG_lng g3
  obtain ⟨x4, rfl, b4, d4⟩ := aG_int g4
  dsimp only at b4 d4
  obtain ⟨m1, m2, m3, m4⟩ := hM
  obtain ⟨a0, c0, fs0, w0, e1, s0, t0, e4⟩ := m1 (1, 5, 2) (List.mem_of_getElem? (i := 0) rfl)
  obtain rfl : x1 = a0 := Sum.inl.inj (Option.some.inj (Sum.inr.inj (Sum.inr.inj (Option.some.inj (show some (fR x1) = some _ from e1)))))
  obtain rfl : fR x2 = w0 := Option.some.inj (show some (fR x2) = some w0 from e4)
  clear e1 e4
  have f0 : fB K n p 73 [fR x1, fI x4] σ := by
    obtain ⟨w, e6, e7⟩ := m4 (1170, [1, 4]) (List.mem_of_getElem? (i := 0) rfl)
    obtain rfl : [fR x1, fI x4] = w := Option.some.inj (show some [fR x1, fI x4] = some w from e6)
    exact (fF_b (r := 1170) (by decide) rfl).mp e7
  clear m1 m2 m3 m4
  obtain ⟨a, m, g, e, w, hu, hk⟩ := f0
  cases e
  have q0 : fB K n (fSh (p) []) 73 [fR x1, fI x4] (jup σ x2 (jstl (σ x2) x0.toNatClampNeg x3)) := by
    refine ⟨_, _, vp_updL g x0.toInt.toNat x3, rfl, fPu_st w s0 t0, ?_, hk⟩
    have e9 : vp_updL g x0.toInt.toNat x3 0 = g 0 := by unfold vp_updL; rw [if_neg (by omega)]
    rw [e9]
    exact hu
  exact ⟨p, fun _ => rfl, ⟨(fun q h => by cases h), fun q h => (by cases h), (fun f h => by cases h), (aAllc ⟨_, rfl, fF_pl (r := 1170) (by decide) (by decide) (Nat.le_of_ble_eq_true rfl) q0⟩ (fun f h => by cases h))⟩, [], List.mem_cons_self, fun f h => (by cases h)⟩
set_option maxRecDepth 8192 in
theorem rw_ruUU0 {K : Nat → Nat} {n : Nat} : aGho (fF K n) fa_T K n (fJX K n) ag_ruUU0 := by
  refine aGho_of ⟨rfl, rfl⟩ ?_
  intro p σ ρ hH hX hA hM
  have hG := aAG_of hA.1 (fun i e v he hv => (hA.2 i e v he hv).1)
  clear hA
  obtain ⟨v0, v1, v2, v3, v4, rfl, g0, g1, g2, g3, g4⟩ := fA_5 hG
  clear hG
  obtain ⟨x0, rfl, b0, d0⟩ := aG_int g0
  dsimp only at b0 d0
  obtain ⟨x1, rfl, b1, d1⟩ := fG_ref (by decide) g1
  obtain ⟨x2, rfl, b2, d2⟩ := aG_int g2
  dsimp only at b2 d2
  obtain ⟨x3, rfl⟩ := aG_lng g3
  obtain ⟨x4, rfl, b4, d4⟩ := fG_ref (by decide) g4
  obtain ⟨m1, m2, m3, m4⟩ := hM
  obtain ⟨a0, c0, fs0, w0, e1, s0, t0, e4⟩ := m1 (1, 5, 4) (List.mem_of_getElem? (i := 0) rfl)
  obtain rfl : x1 = a0 := Sum.inl.inj (Option.some.inj (Sum.inr.inj (Sum.inr.inj (Option.some.inj (show some (fR x1) = some _ from e1)))))
  obtain rfl : fR x4 = w0 := Option.some.inj (show some (fR x4) = some w0 from e4)
  clear e1 e4
  obtain ⟨a, mc0, ty0, gc0, ic0, e1, sc0, jc0, e4, e5⟩ := m2 (4, ([], 0), 3) (List.mem_of_getElem? (i := 0) rfl)
  obtain rfl : x4 = a := Sum.inl.inj (Option.some.inj (Sum.inr.inj (Sum.inr.inj (Option.some.inj (show some (fR x4) = some _ from e1)))))
  obtain ⟨gc0, rfl⟩ : ∃ g, gc0 = .inr g := by
    rcases gc0 with g | g
    · exact absurd (show some ((.inr (.inl x3) : jv)) = some (.inl (g ic0)) from e5) (fun h => by cases h)
    · exact ⟨g, rfl⟩
  have sc0 : σ x4 = .inl (ty0, mc0, .inr (.inl gc0)) := sc0
  have ec0 : x3 = gc0 ic0 := Sum.inl.inj (Sum.inr.inj (Option.some.inj (show some ((.inr (.inl x3) : jv)) = some _ from e5)))
  have kc0 : (ic0 : Int) = 0 + 0 := by
    obtain ⟨z, e6, e7⟩ := e4
    obtain rfl : 0 = z := Option.some.inj (show some 0 = some z from e6)
    exact e7
  clear e1 e4 e5
  have f0 : fB K n p 73 [fR x1, fI x2] σ := by
    obtain ⟨w, e6, e7⟩ := m4 (1170, [1, 2]) (List.mem_of_getElem? (i := 0) rfl)
    obtain rfl : [fR x1, fI x2] = w := Option.some.inj (show some [fR x1, fI x2] = some w from e6)
    exact (fF_b (r := 1170) (by decide) rfl).mp e7
  clear m1 m2 m3 m4
  obtain ⟨a, m, g, e, w, hu, hk⟩ := f0
  cases e
  obtain rfl := fPu_c w s0 t0 sc0
  have q0 : fB K n (p) 4 [fI x2, (.inr (.inl x3) : jv)] σ := by
    rw [ec0, show ic0 = 0 by omega]
    exact ⟨_, _, rfl, hu.1, hu.2, hk⟩
  exact ⟨p, fun _ => rfl, ⟨(fun q h => by cases h), fun q h => (by cases h), (fun f h => by cases h), (aAllc ⟨_, rfl, (fF_b (r := 66) (by decide) rfl).mpr q0⟩ (fun f h => by cases h))⟩, [], List.mem_cons_self, fun f h => (by cases h)⟩
set_option maxRecDepth 8192 in
theorem rw_ruUN1 {K : Nat → Nat} {n : Nat} : aGho (fF K n) fa_T K n (fJX K n) ag_ruUN1 := by
  refine aGho_of ⟨rfl, rfl⟩ ?_
  intro p σ ρ hH hX hA hM
  have hG := aAG_of hA.1 (fun i e v he hv => (hA.2 i e v he hv).1)
  clear hA
  obtain ⟨v0, v1, v2, v3, v4, rfl, g0, g1, g2, g3, g4⟩ := fA_5 hG
  clear hG
  obtain ⟨x0, rfl, b0, d0⟩ := aG_int g0
  dsimp only at b0 d0
  obtain ⟨x1, rfl, b1, d1⟩ := fG_ref (by decide) g1
  obtain ⟨x2, rfl, b2, d2⟩ := aG_int g2
  dsimp only at b2 d2
  obtain ⟨x3, rfl⟩ := aG_lng g3
  obtain ⟨x4, rfl, b4, d4⟩ := fG_ref (by decide) g4
  obtain ⟨m1, m2, m3, m4⟩ := hM
  obtain ⟨a0, c0, fs0, w0, e1, s0, t0, e4⟩ := m1 (1, 5, 4) (List.mem_of_getElem? (i := 0) rfl)
  obtain rfl : x1 = a0 := Sum.inl.inj (Option.some.inj (Sum.inr.inj (Sum.inr.inj (Option.some.inj (show some (fR x1) = some _ from e1)))))
  obtain rfl : fR x4 = w0 := Option.some.inj (show some (fR x4) = some w0 from e4)
  clear e1 e4
  have f0 : fB K n p 4 [fI x2, (.inr (.inl x3) : jv)] σ := by
    obtain ⟨w, e6, e7⟩ := m4 (66, [2, 3]) (List.mem_of_getElem? (i := 0) rfl)
    obtain rfl : [fI x2, (.inr (.inl x3) : jv)] = w := Option.some.inj (show some [fI x2, (.inr (.inl x3) : jv)] = some w from e6)
    exact (fF_b (r := 66) (by decide) rfl).mp e7
  clear m1 m2 m3 m4
  obtain ⟨mu, u, eu, hu1, hu2, hu3⟩ := f0
  cases eu
  obtain ⟨g, w⟩ := fPu_mk hH b1 d1 s0 t0 b4 d4
  have q0 : fB K n (fSh (p) []) 74 [fR x1, fI x2] (jup σ x4 (jstl (σ x4) x0.toNatClampNeg x3)) := by
    refine ⟨_, _, vp_updL g x0.toInt.toNat x3, rfl, fPu_st w s0 t0, ?_, hu3⟩
    have e9 : vp_updL g x0.toInt.toNat x3 1 = x3 := by unfold vp_updL; rw [if_pos (by omega)]
    rw [e9]
    exact ⟨hu1, hu2⟩
  exact ⟨p, fun _ => rfl, ⟨(fun q h => by cases h), fun q h => (by cases h), (fun f h => by cases h), (aAllc ⟨_, rfl, fF_pl (r := 1186) (by decide) (by decide) (Nat.le_of_ble_eq_true rfl) q0⟩ (fun f h => by cases h))⟩, [], List.mem_cons_self, fun f h => (by cases h)⟩
set_option maxRecDepth 8192 in
theorem rw_ruUK1 {K : Nat → Nat} {n : Nat} : aGho (fF K n) fa_T K n (fJX K n) ag_ruUK1 := by
  refine aGho_of ⟨rfl, rfl⟩ ?_
  intro p σ ρ hH hX hA hM
  have hG := aAG_of hA.1 (fun i e v he hv => (hA.2 i e v he hv).1)
  clear hA
  obtain ⟨v0, v1, v2, v3, v4, rfl, g0, g1, g2, g3, g4⟩ := fA_5 hG
  clear hG
  obtain ⟨x0, rfl, b0, d0⟩ := aG_int g0
  dsimp only at b0 d0
  obtain ⟨x1, rfl, b1, d1⟩ := fG_ref (by decide) g1
  obtain ⟨x2, rfl, b2, d2⟩ := fG_ref (by decide) g2
  obtain ⟨x3, rfl⟩ := aG_lng g3
  obtain ⟨x4, rfl, b4, d4⟩ := aG_int g4
  dsimp only at b4 d4
  obtain ⟨m1, m2, m3, m4⟩ := hM
  obtain ⟨a0, c0, fs0, w0, e1, s0, t0, e4⟩ := m1 (1, 5, 2) (List.mem_of_getElem? (i := 0) rfl)
  obtain rfl : x1 = a0 := Sum.inl.inj (Option.some.inj (Sum.inr.inj (Sum.inr.inj (Option.some.inj (show some (fR x1) = some _ from e1)))))
  obtain rfl : fR x2 = w0 := Option.some.inj (show some (fR x2) = some w0 from e4)
  clear e1 e4
  have f0 : fB K n p 74 [fR x1, fI x4] σ := by
    obtain ⟨w, e6, e7⟩ := m4 (1186, [1, 4]) (List.mem_of_getElem? (i := 0) rfl)
    obtain rfl : [fR x1, fI x4] = w := Option.some.inj (show some [fR x1, fI x4] = some w from e6)
    exact (fF_b (r := 1186) (by decide) rfl).mp e7
  clear m1 m2 m3 m4
  obtain ⟨a, m, g, e, w, hu, hk⟩ := f0
  cases e
  have q0 : fB K n (fSh (p) []) 74 [fR x1, fI x4] (jup σ x2 (jstl (σ x2) x0.toNatClampNeg x3)) := by
    refine ⟨_, _, vp_updL g x0.toInt.toNat x3, rfl, fPu_st w s0 t0, ?_, hk⟩
    have e9 : vp_updL g x0.toInt.toNat x3 1 = g 1 := by unfold vp_updL; rw [if_neg (by omega)]
    rw [e9]
    exact hu
  exact ⟨p, fun _ => rfl, ⟨(fun q h => by cases h), fun q h => (by cases h), (fun f h => by cases h), (aAllc ⟨_, rfl, fF_pl (r := 1186) (by decide) (by decide) (Nat.le_of_ble_eq_true rfl) q0⟩ (fun f h => by cases h))⟩, [], List.mem_cons_self, fun f h => (by cases h)⟩
set_option maxRecDepth 8192 in
theorem rw_ruUU1 {K : Nat → Nat} {n : Nat} : aGho (fF K n) fa_T K n (fJX K n) ag_ruUU1 := by
  refine aGho_of ⟨rfl, rfl⟩ ?_
  intro p σ ρ hH hX hA hM
  have hG := aAG_of hA.1 (fun i e v he hv => (hA.2 i e v he hv).1)
  clear hA
  obtain ⟨v0, v1, v2, v3, v4, rfl, g0, g1, g2, g3, g4⟩ := fA_5 hG
  clear hG
  obtain ⟨x0, rfl, b0, d0⟩ := aG_int g0
  dsimp only at b0 d0
  obtain ⟨x1, rfl, b1, d1⟩ := fG_ref (by decide) g1
  obtain ⟨x2, rfl, b2, d2⟩ := aG_int g2
  dsimp only at b2 d2
  obtain ⟨x3, rfl⟩ := aG_lng g3
  obtain ⟨x4, rfl, b4, d4⟩ := fG_ref (by decide) g4
  obtain ⟨m1, m2, m3, m4⟩ := hM
  obtain ⟨a0, c0, fs0, w0, e1, s0, t0, e4⟩ := m1 (1, 5, 4) (List.mem_of_getElem? (i := 0) rfl)
  obtain rfl : x1 = a0 := Sum.inl.inj (Option.some.inj (Sum.inr.inj (Sum.inr.inj (Option.some.inj (show some (fR x1) = some _ from e1)))))
  obtain rfl : fR x4 = w0 := Option.some.inj (show some (fR x4) = some w0 from e4)
  clear e1 e4
  obtain ⟨a, mc0, ty0, gc0, ic0, e1, sc0, jc0, e4, e5⟩ := m2 (4, ([], 1), 3) (List.mem_of_getElem? (i := 0) rfl)
  obtain rfl : x4 = a := Sum.inl.inj (Option.some.inj (Sum.inr.inj (Sum.inr.inj (Option.some.inj (show some (fR x4) = some _ from e1)))))
  obtain ⟨gc0, rfl⟩ : ∃ g, gc0 = .inr g := by
    rcases gc0 with g | g
    · exact absurd (show some ((.inr (.inl x3) : jv)) = some (.inl (g ic0)) from e5) (fun h => by cases h)
    · exact ⟨g, rfl⟩
  have sc0 : σ x4 = .inl (ty0, mc0, .inr (.inl gc0)) := sc0
  have ec0 : x3 = gc0 ic0 := Sum.inl.inj (Sum.inr.inj (Option.some.inj (show some ((.inr (.inl x3) : jv)) = some _ from e5)))
  have kc0 : (ic0 : Int) = 0 + 1 := by
    obtain ⟨z, e6, e7⟩ := e4
    obtain rfl : 0 = z := Option.some.inj (show some 0 = some z from e6)
    exact e7
  clear e1 e4 e5
  have f0 : fB K n p 74 [fR x1, fI x2] σ := by
    obtain ⟨w, e6, e7⟩ := m4 (1186, [1, 2]) (List.mem_of_getElem? (i := 0) rfl)
    obtain rfl : [fR x1, fI x2] = w := Option.some.inj (show some [fR x1, fI x2] = some w from e6)
    exact (fF_b (r := 1186) (by decide) rfl).mp e7
  clear m1 m2 m3 m4
  obtain ⟨a, m, g, e, w, hu, hk⟩ := f0
  cases e
  obtain rfl := fPu_c w s0 t0 sc0
  have q0 : fB K n (p) 4 [fI x2, (.inr (.inl x3) : jv)] σ := by
    rw [ec0, show ic0 = 1 by omega]
    exact ⟨_, _, rfl, hu.1, hu.2, hk⟩
  exact ⟨p, fun _ => rfl, ⟨(fun q h => by cases h), fun q h => (by cases h), (fun f h => by cases h), (aAllc ⟨_, rfl, (fF_b (r := 66) (by decide) rfl).mpr q0⟩ (fun f h => by cases h))⟩, [], List.mem_cons_self, fun f h => (by cases h)⟩
set_option maxRecDepth 8192 in
theorem rw_ruUN2 {K : Nat → Nat} {n : Nat} : aGho (fF K n) fa_T K n (fJX K n) ag_ruUN2 := by
  refine aGho_of ⟨rfl, rfl⟩ ?_
  intro p σ ρ hH hX hA hM
  have hG := aAG_of hA.1 (fun i e v he hv => (hA.2 i e v he hv).1)
  clear hA
  obtain ⟨v0, v1, v2, v3, v4, rfl, g0, g1, g2, g3, g4⟩ := fA_5 hG
  clear hG
  obtain ⟨x0, rfl, b0, d0⟩ := aG_int g0
  dsimp only at b0 d0
  obtain ⟨x1, rfl, b1, d1⟩ := fG_ref (by decide) g1
  obtain ⟨x2, rfl, b2, d2⟩ := aG_int g2
  dsimp only at b2 d2
  obtain ⟨x3, rfl⟩ := aG_lng g3
  obtain ⟨x4, rfl, b4, d4⟩ := fG_ref (by decide) g4
  obtain ⟨m1, m2, m3, m4⟩ := hM
  obtain ⟨a0, c0, fs0, w0, e1, s0, t0, e4⟩ := m1 (1, 5, 4) (List.mem_of_getElem? (i := 0) rfl)
  obtain rfl : x1 = a0 := Sum.inl.inj (Option.some.inj (Sum.inr.inj (Sum.inr.inj (Option.some.inj (show some (fR x1) = some _ from e1)))))
  obtain rfl : fR x4 = w0 := Option.some.inj (show some (fR x4) = some w0 from e4)
  clear e1 e4
  have f0 : fB K n p 4 [fI x2, (.inr (.inl x3) : jv)] σ := by
    obtain ⟨w, e6, e7⟩ := m4 (66, [2, 3]) (List.mem_of_getElem? (i := 0) rfl)
    obtain rfl : [fI x2, (.inr (.inl x3) : jv)] = w := Option.some.inj (show some [fI x2, (.inr (.inl x3) : jv)] = some w from e6)
    exact (fF_b (r := 66) (by decide) rfl).mp e7
  clear m1 m2 m3 m4
  obtain ⟨mu, u, eu, hu1, hu2, hu3⟩ := f0
  cases eu
  obtain ⟨g, w⟩ := fPu_mk hH b1 d1 s0 t0 b4 d4
  have q0 : fB K n (fSh (p) []) 75 [fR x1, fI x2] (jup σ x4 (jstl (σ x4) x0.toNatClampNeg x3)) := by
    refine ⟨_, _, vp_updL g x0.toInt.toNat x3, rfl, fPu_st w s0 t0, ?_, hu3⟩
    have e9 : vp_updL g x0.toInt.toNat x3 2 = x3 := by unfold vp_updL; rw [if_pos (by omega)]
    rw [e9]
    exact ⟨hu1, hu2⟩
  exact ⟨p, fun _ => rfl, ⟨(fun q h => by cases h), fun q h => (by cases h), (fun f h => by cases h), (aAllc ⟨_, rfl, fF_pl (r := 1202) (by decide) (by decide) (Nat.le_of_ble_eq_true rfl) q0⟩ (fun f h => by cases h))⟩, [], List.mem_cons_self, fun f h => (by cases h)⟩
set_option maxRecDepth 8192 in
theorem rw_ruUK2 {K : Nat → Nat} {n : Nat} : aGho (fF K n) fa_T K n (fJX K n) ag_ruUK2 := by
  refine aGho_of ⟨rfl, rfl⟩ ?_
  intro p σ ρ hH hX hA hM
  have hG := aAG_of hA.1 (fun i e v he hv => (hA.2 i e v he hv).1)
  clear hA
  obtain ⟨v0, v1, v2, v3, v4, rfl, g0, g1, g2, g3, g4⟩ := fA_5 hG
  clear hG
  obtain ⟨x0, rfl, b0, d0⟩ := aG_int g0
  dsimp only at b0 d0
  obtain ⟨x1, rfl, b1, d1⟩ := fG_ref (by decide) g1
  obtain ⟨x2, rfl, b2, d2⟩ := fG_ref (by decide) g2
  obtain ⟨x3, rfl⟩ := aG_lng g3
  obtain ⟨x4, rfl, b4, d4⟩ := aG_int g4
  dsimp only at b4 d4
  obtain ⟨m1, m2, m3, m4⟩ := hM
  obtain ⟨a0, c0, fs0, w0, e1, s0, t0, e4⟩ := m1 (1, 5, 2) (List.mem_of_getElem? (i := 0) rfl)
  obtain rfl : x1 = a0 := Sum.inl.inj (Option.some.inj (Sum.inr.inj (Sum.inr.inj (Option.some.inj (show some (fR x1) = some _ from e1)))))
  obtain rfl : fR x2 = w0 := Option.some.inj (show some (fR x2) = some w0 from e4)
  clear e1 e4
  have f0 : fB K n p 75 [fR x1, fI x4] σ := by
    obtain ⟨w, e6, e7⟩ := m4 (1202, [1, 4]) (List.mem_of_getElem? (i := 0) rfl)
    obtain rfl : [fR x1, fI x4] = w := Option.some.inj (show some [fR x1, fI x4] = some w from e6)
    exact (fF_b (r := 1202) (by decide) rfl).mp e7
  clear m1 m2 m3 m4
  obtain ⟨a, m, g, e, w, hu, hk⟩ := f0
  cases e
  have q0 : fB K n (fSh (p) []) 75 [fR x1, fI x4] (jup σ x2 (jstl (σ x2) x0.toNatClampNeg x3)) := by
    refine ⟨_, _, vp_updL g x0.toInt.toNat x3, rfl, fPu_st w s0 t0, ?_, hk⟩
    have e9 : vp_updL g x0.toInt.toNat x3 2 = g 2 := by unfold vp_updL; rw [if_neg (by omega)]
    rw [e9]
    exact hu
  exact ⟨p, fun _ => rfl, ⟨(fun q h => by cases h), fun q h => (by cases h), (fun f h => by cases h), (aAllc ⟨_, rfl, fF_pl (r := 1202) (by decide) (by decide) (Nat.le_of_ble_eq_true rfl) q0⟩ (fun f h => by cases h))⟩, [], List.mem_cons_self, fun f h => (by cases h)⟩
set_option maxRecDepth 8192 in
theorem rw_ruUU2 {K : Nat → Nat} {n : Nat} : aGho (fF K n) fa_T K n (fJX K n) ag_ruUU2 := by
  refine aGho_of ⟨rfl, rfl⟩ ?_
  intro p σ ρ hH hX hA hM
  have hG := aAG_of hA.1 (fun i e v he hv => (hA.2 i e v he hv).1)
  clear hA
  obtain ⟨v0, v1, v2, v3, v4, rfl, g0, g1, g2, g3, g4⟩ := fA_5 hG
  clear hG
  obtain ⟨x0, rfl, b0, d0⟩ := aG_int g0
  dsimp only at b0 d0
  obtain ⟨x1, rfl, b1, d1⟩ := fG_ref (by decide) g1
  obtain ⟨x2, rfl, b2, d2⟩ := aG_int g2
  dsimp only at b2 d2
  obtain ⟨x3, rfl⟩ := aG_lng g3
  obtain ⟨x4, rfl, b4, d4⟩ := fG_ref (by decide) g4
  obtain ⟨m1, m2, m3, m4⟩ := hM
  obtain ⟨a0, c0, fs0, w0, e1, s0, t0, e4⟩ := m1 (1, 5, 4) (List.mem_of_getElem? (i := 0) rfl)
  obtain rfl : x1 = a0 := Sum.inl.inj (Option.some.inj (Sum.inr.inj (Sum.inr.inj (Option.some.inj (show some (fR x1) = some _ from e1)))))
  obtain rfl : fR x4 = w0 := Option.some.inj (show some (fR x4) = some w0 from e4)
  clear e1 e4
  obtain ⟨a, mc0, ty0, gc0, ic0, e1, sc0, jc0, e4, e5⟩ := m2 (4, ([], 2), 3) (List.mem_of_getElem? (i := 0) rfl)
  obtain rfl : x4 = a := Sum.inl.inj (Option.some.inj (Sum.inr.inj (Sum.inr.inj (Option.some.inj (show some (fR x4) = some _ from e1)))))
  obtain ⟨gc0, rfl⟩ : ∃ g, gc0 = .inr g := by
    rcases gc0 with g | g
    · exact absurd (show some ((.inr (.inl x3) : jv)) = some (.inl (g ic0)) from e5) (fun h => by cases h)
    · exact ⟨g, rfl⟩
  have sc0 : σ x4 = .inl (ty0, mc0, .inr (.inl gc0)) := sc0
  have ec0 : x3 = gc0 ic0 := Sum.inl.inj (Sum.inr.inj (Option.some.inj (show some ((.inr (.inl x3) : jv)) = some _ from e5)))
  have kc0 : (ic0 : Int) = 0 + 2 := by
    obtain ⟨z, e6, e7⟩ := e4
    obtain rfl : 0 = z := Option.some.inj (show some 0 = some z from e6)
    exact e7
  clear e1 e4 e5
  have f0 : fB K n p 75 [fR x1, fI x2] σ := by
    obtain ⟨w, e6, e7⟩ := m4 (1202, [1, 2]) (List.mem_of_getElem? (i := 0) rfl)
    obtain rfl : [fR x1, fI x2] = w := Option.some.inj (show some [fR x1, fI x2] = some w from e6)
    exact (fF_b (r := 1202) (by decide) rfl).mp e7
  clear m1 m2 m3 m4
  obtain ⟨a, m, g, e, w, hu, hk⟩ := f0
  cases e
  obtain rfl := fPu_c w s0 t0 sc0
  have q0 : fB K n (p) 4 [fI x2, (.inr (.inl x3) : jv)] σ := by
    rw [ec0, show ic0 = 2 by omega]
    exact ⟨_, _, rfl, hu.1, hu.2, hk⟩
  exact ⟨p, fun _ => rfl, ⟨(fun q h => by cases h), fun q h => (by cases h), (fun f h => by cases h), (aAllc ⟨_, rfl, (fF_b (r := 66) (by decide) rfl).mpr q0⟩ (fun f h => by cases h))⟩, [], List.mem_cons_self, fun f h => (by cases h)⟩
set_option maxRecDepth 8192 in
theorem rw_ruUN3 {K : Nat → Nat} {n : Nat} : aGho (fF K n) fa_T K n (fJX K n) ag_ruUN3 := by
  refine aGho_of ⟨rfl, rfl⟩ ?_
  intro p σ ρ hH hX hA hM
  have hG := aAG_of hA.1 (fun i e v he hv => (hA.2 i e v he hv).1)
  clear hA
  obtain ⟨v0, v1, v2, v3, v4, rfl, g0, g1, g2, g3, g4⟩ := fA_5 hG
  clear hG
  obtain ⟨x0, rfl, b0, d0⟩ := aG_int g0
  dsimp only at b0 d0
  obtain ⟨x1, rfl, b1, d1⟩ := fG_ref (by decide) g1
  obtain ⟨x2, rfl, b2, d2⟩ := aG_int g2
  dsimp only at b2 d2
  obtain ⟨x3, rfl⟩ := aG_lng g3
  obtain ⟨x4, rfl, b4, d4⟩ := fG_ref (by decide) g4
  obtain ⟨m1, m2, m3, m4⟩ := hM
  obtain ⟨a0, c0, fs0, w0, e1, s0, t0, e4⟩ := m1 (1, 5, 4) (List.mem_of_getElem? (i := 0) rfl)
  obtain rfl : x1 = a0 := Sum.inl.inj (Option.some.inj (Sum.inr.inj (Sum.inr.inj (Option.some.inj (show some (fR x1) = some _ from e1)))))
  obtain rfl : fR x4 = w0 := Option.some.inj (show some (fR x4) = some w0 from e4)
  clear e1 e4
  have f0 : fB K n p 4 [fI x2, (.inr (.inl x3) : jv)] σ := by
    obtain ⟨w, e6, e7⟩ := m4 (66, [2, 3]) (List.mem_of_getElem? (i := 0) rfl)
    obtain rfl : [fI x2, (.inr (.inl x3) : jv)] = w := Option.some.inj (show some [fI x2, (.inr (.inl x3) : jv)] = some w from e6)
    exact (fF_b (r := 66) (by decide) rfl).mp e7
  clear m1 m2 m3 m4
  obtain ⟨mu, u, eu, hu1, hu2, hu3⟩ := f0
  cases eu
  obtain ⟨g, w⟩ := fPu_mk hH b1 d1 s0 t0 b4 d4
  have q0 : fB K n (fSh (p) []) 76 [fR x1, fI x2] (jup σ x4 (jstl (σ x4) x0.toNatClampNeg x3)) := by
    refine ⟨_, _, vp_updL g x0.toInt.toNat x3, rfl, fPu_st w s0 t0, ?_, hu3⟩
    have e9 : vp_updL g x0.toInt.toNat x3 3 = x3 := by unfold vp_updL; rw [if_pos (by omega)]
    rw [e9]
    exact ⟨hu1, hu2⟩
  exact ⟨p, fun _ => rfl, ⟨(fun q h => by cases h), fun q h => (by cases h), (fun f h => by cases h), (aAllc ⟨_, rfl, fF_pl (r := 1218) (by decide) (by decide) (Nat.le_of_ble_eq_true rfl) q0⟩ (fun f h => by cases h))⟩, [], List.mem_cons_self, fun f h => (by cases h)⟩
set_option maxRecDepth 8192 in
theorem rw_ruUU3 {K : Nat → Nat} {n : Nat} : aGho (fF K n) fa_T K n (fJX K n) ag_ruUU3 := by
  refine aGho_of ⟨rfl, rfl⟩ ?_
  intro p σ ρ hH hX hA hM
  have hG := aAG_of hA.1 (fun i e v he hv => (hA.2 i e v he hv).1)
  clear hA
  obtain ⟨v0, v1, v2, v3, v4, rfl, g0, g1, g2, g3, g4⟩ := fA_5 hG
  clear hG
  obtain ⟨x0, rfl, b0, d0⟩ := aG_int g0
  dsimp only at b0 d0
  obtain ⟨x1, rfl, b1, d1⟩ := fG_ref (by decide) g1
  obtain ⟨x2, rfl, b2, d2⟩ := aG_int g2
  dsimp only at b2 d2
  obtain ⟨x3, rfl⟩ := aG_lng g3
  obtain ⟨x4, rfl, b4, d4⟩ := fG_ref (by decide) g4
  obtain ⟨m1, m2, m3, m4⟩ := hM
  obtain ⟨a0, c0, fs0, w0, e1, s0, t0, e4⟩ := m1 (1, 5, 4) (List.mem_of_getElem? (i := 0) rfl)
  obtain rfl : x1 = a0 := Sum.inl.inj (Option.some.inj (Sum.inr.inj (Sum.inr.inj (Option.some.inj (show some (fR x1) = some _ from e1)))))
  obtain rfl : fR x4 = w0 := Option.some.inj (show some (fR x4) = some w0 from e4)
  clear e1 e4
  obtain ⟨a, mc0, ty0, gc0, ic0, e1, sc0, jc0, e4, e5⟩ := m2 (4, ([], 3), 3) (List.mem_of_getElem? (i := 0) rfl)
  obtain rfl : x4 = a := Sum.inl.inj (Option.some.inj (Sum.inr.inj (Sum.inr.inj (Option.some.inj (show some (fR x4) = some _ from e1)))))
  obtain ⟨gc0, rfl⟩ : ∃ g, gc0 = .inr g := by
    rcases gc0 with g | g
    · exact absurd (show some ((.inr (.inl x3) : jv)) = some (.inl (g ic0)) from e5) (fun h => by cases h)
    · exact ⟨g, rfl⟩
  have sc0 : σ x4 = .inl (ty0, mc0, .inr (.inl gc0)) := sc0
  have ec0 : x3 = gc0 ic0 := Sum.inl.inj (Sum.inr.inj (Option.some.inj (show some ((.inr (.inl x3) : jv)) = some _ from e5)))
  have kc0 : (ic0 : Int) = 0 + 3 := by
    obtain ⟨z, e6, e7⟩ := e4
    obtain rfl : 0 = z := Option.some.inj (show some 0 = some z from e6)
    exact e7
  clear e1 e4 e5
  have f0 : fB K n p 76 [fR x1, fI x2] σ := by
    obtain ⟨w, e6, e7⟩ := m4 (1218, [1, 2]) (List.mem_of_getElem? (i := 0) rfl)
    obtain rfl : [fR x1, fI x2] = w := Option.some.inj (show some [fR x1, fI x2] = some w from e6)
    exact (fF_b (r := 1218) (by decide) rfl).mp e7
  clear m1 m2 m3 m4
  obtain ⟨a, m, g, e, w, hu, hk⟩ := f0
  cases e
  obtain rfl := fPu_c w s0 t0 sc0
  have q0 : fB K n (p) 4 [fI x2, (.inr (.inl x3) : jv)] σ := by
    rw [ec0, show ic0 = 3 by omega]
    exact ⟨_, _, rfl, hu.1, hu.2, hk⟩
  exact ⟨p, fun _ => rfl, ⟨(fun q h => by cases h), fun q h => (by cases h), (fun f h => by cases h), (aAllc ⟨_, rfl, (fF_b (r := 66) (by decide) rfl).mpr q0⟩ (fun f h => by cases h))⟩, [], List.mem_cons_self, fun f h => (by cases h)⟩
end
section
/-! put, by hand -/
theorem fBd_fr0 {K : Nat → Nat} {n : Nat} {σ : Nat → jcell} {a n0 : Nat} (hl : fLay K n σ a n0) {F : Nat → Int32} {A A' : Nat → Nat → Int32} {L L' : Nat → Nat → Int64} (hσ : σ = bdP σ a n0 F A L) : aFr K n [] σ (bdP σ a n0 F A' L') := by
  obtain ⟨h1, h2, h3, -⟩ := hl
  intro b hbn c fs h0
  by_cases e : b = a
  · subst e
    rw [hσ, fBd_a] at h0
    cases h0
    exact ⟨bd_fl n0 F, fBd_a, rfl, fun f v hv _ => hv⟩
  · by_cases e2 : n0 ≤ b ∧ b < n0 + 11
    · obtain ⟨j, rfl⟩ : ∃ j, b = n0 + j := ⟨b - n0, by omega⟩
      have hj : j < 11 := by omega
      rw [hσ, fBd_r h1 hj] at h0
      match j, hj, h0 with
      | 0, _, h0 => exact absurd (show (.inl (.int, 64, .inl (A 0)) : jcell) = .inr (c, fs) from h0) (by intro h; cases h)
      | 1, _, h0 => exact absurd (show (.inl (.int, 2, .inl (A 1)) : jcell) = .inr (c, fs) from h0) (by intro h; cases h)
      | 2, _, h0 => exact absurd (show (.inl (.long, 4, .inr (.inl (L 2))) : jcell) = .inr (c, fs) from h0) (by intro h; cases h)
      | 3, _, h0 => exact absurd (show (.inl (.int, 2, .inl (A 3)) : jcell) = .inr (c, fs) from h0) (by intro h; cases h)
      | 4, _, h0 => exact absurd (show (.inl (.int, 16, .inl (A 4)) : jcell) = .inr (c, fs) from h0) (by intro h; cases h)
      | 5, _, h0 => exact absurd (show (.inl (.int, 2, .inl (A 5)) : jcell) = .inr (c, fs) from h0) (by intro h; cases h)
      | 6, _, h0 => exact absurd (show (.inl (.int, 1024, .inl (A 6)) : jcell) = .inr (c, fs) from h0) (by intro h; cases h)
      | 7, _, h0 => exact absurd (show (.inl (.int, 512, .inl (A 7)) : jcell) = .inr (c, fs) from h0) (by intro h; cases h)
      | 8, _, h0 => exact absurd (show (.inl (.int, 512, .inl (A 8)) : jcell) = .inr (c, fs) from h0) (by intro h; cases h)
      | 9, _, h0 => exact absurd (show (.inl (.long, 1280, .inr (.inl (L 9))) : jcell) = .inr (c, fs) from h0) (by intro h; cases h)
      | 10, _, h0 => exact absurd (show (.inl (.int, 320, .inl (A 10)) : jcell) = .inr (c, fs) from h0) (by intro h; cases h)
    · exact ⟨fs, by rw [fBd_n e e2]; exact h0, rfl, fun f v hv _ => hv⟩
theorem fPutX {l : Launch} {E : jE} {K : Nat → Nat} {n : Nat} {σ : Nat → jcell} (hH : aH fa_T K n σ) (hX : fJX K n σ) {a : Nat} (ha : a < n) (hka : K a = 26) {s m : Int32} (hs : 0 ≤ s.toInt ∧ s.toInt ≤ 63) (hm : 1 ≤ m.toInt ∧ m.toInt ≤ 14) {g : Nat → Int32} (hg : fMe K n σ a g) (hw : fWx K n σ a g) (h0 : (g s.toInt.toNat).toInt = 0) : jMet l E jcl jtb lw_tbl y_BO_put { } [fR a, fI s, fI m] σ n (fun r σ' n' => n' = n ∧ aH fa_T K n σ' ∧ fJX K n σ' ∧ aFr K n [] σ σ' ∧ (∀ ρ, aFa K n [(27, ([], 0)), (28, ([], 0)), (29, ([], 0)), (30, ([], 0)), (31, ([], 0)), (32, ([], 0))] ρ σ σ') ∧ r = none ∧ fMe K n σ' a (upd g s.toInt.toNat m) ∧ fWx K n σ' a (upd g s.toInt.toNat m)) := by
  obtain ⟨n0, hl⟩ := hX.2.2.1 a ha hka
  obtain ⟨F0, A, L, hσ⟩ := fBd_in hH ha hka hl
  have hsa : σ a = .inr (10, bd_fl n0 F0) := (congrFun hσ a).trans fBd_a
  obtain ⟨r, ⟨-, -, c, fs, e1, e2⟩, l1, l2, l3⟩ := hg
  rw [hsa] at e1
  cases e1
  obtain rfl : n0 = r := fR_inj e2
  have r3 : σ (n0 + 0) = bd_c A L 0 := (congrFun hσ (n0 + 0)).trans (fBd_r hl.1 (by decide))
  have r4 : (.inl (.int, 64, .inl g) : jcell) = .inl (.int, 64, .inl (A 0)) := l3.symm.trans r3
  cases r4
  obtain ⟨hr, rw9, w9, ⟨-, -, c, fs, e1, e2⟩, k1, k2, k3, k4, k5⟩ := hw
  rw [hsa] at e1
  cases e1
  obtain rfl : n0 + 3 = rw9 := fR_inj e2
  have u3 : σ (n0 + 3) = bd_c A L 3 := (congrFun hσ (n0 + 3)).trans (fBd_r hl.1 (by decide))
  have u4 : (.inl (.int, 2, .inl w9) : jcell) = .inl (.int, 2, .inl (A 3)) := k3.symm.trans u3
  cases u4
  obtain ⟨g6, t1, t2⟩ := hX.2.2.2 (n0 + 6) (by have := hl.2.1; omega) (hl.2.2.1 6 (by decide))
  have t3 : σ (n0 + 6) = bd_c A L 6 := (congrFun hσ (n0 + 6)).trans (fBd_r hl.1 (by decide))
  have t4 : (.inl (.int, 1024, .inl g6) : jcell) = .inl (.int, 1024, .inl (A 6)) := t1.symm.trans t3
  cases t4
  have rk : kOK (A 1) := fun i hi => by
    have k1 : σ (n0 + 1) = bd_c A L 1 := (congrFun hσ (n0 + 1)).trans (fBd_r hl.1 (by decide))
    have k2 := hH (n0 + 1) (by have := hl.2.1; omega) _ (show fa_T[K (n0 + 1)]? = some _ by rw [hl.2.2.1 1 (by decide)]; rfl)
    rw [k1] at k2
    obtain ⟨-, -, -, k3⟩ := k2
    have k4 := (k3 i hi).1
    have k5 : 0 ≤ (A 1 i).toInt ∧ (A 1 i).toInt ≤ 63 := k4
    exact ⟨(A 1 i).toNatClampNeg, by rw [fNc]; omega, fNi k5.1⟩
  have hfs := hH a ha _ (show fa_T[K a]? = some _ by rw [hka]; rfl)
  rw [hsa] at hfs
  obtain ⟨-, hf⟩ := hfs
  obtain ⟨x2, z2, q2⟩ := fFld hf (i := 2) rfl
  obtain ⟨x3, z3, q3⟩ := fFld hf (i := 3) rfl
  obtain ⟨x4, z4, q4⟩ := fFld hf (i := 4) rfl
  obtain ⟨x5, z5, q5⟩ := fFld hf (i := 5) rfl
  cases (show some (.inl (F0 2) : jv) = some (.inl x2) from z2)
  cases (show some (.inl (F0 3) : jv) = some (.inl x3) from z3)
  cases (show some (.inl (F0 4) : jv) = some (.inl x4) from z4)
  cases (show some (.inl (F0 5) : jv) = some (.inl x5) from z5)
  have hws : bWs A := fun c hc => by
    have c2 : c = 0 ∨ c = 1 := by omega
    rcases c2 with rfl | rfl
    · rw [k4]; exact (fBw t2 (fun i _ => rfl) hr 64 (Nat.le_refl _)).symm
    · rw [k5]; exact (fBw t2 (fun i _ => rfl) hr 64 (Nat.le_refl _)).symm
  have es : s = nI s.toNatClampNeg := fNi hs.1
  have em : m = nI m.toNatClampNeg := fNi (by omega)
  have hsn : s.toNatClampNeg = s.toInt.toNat := rfl
  have hmn : m.toNatClampNeg = m.toInt.toNat := rfl
  have hj := c_BO_put2 l E σ n a n0 hl.1 hl.2.1 F0 A L s.toNatClampNeg m.toNatClampNeg (by omega) (by omega)
  rw [← hσ, ← es, ← em] at hj
  refine jMet_post hj (fun r σ' n' hp => ?_)
  obtain ⟨A', L', rfl, rfl, rfl, hbk, hA0, hK, hW⟩ := hp
  clear hj
  rw [hsn] at hA0
  have hz : A 0 s.toNatClampNeg = 0 := Int32.toInt_inj.mp (by rw [hsn, h0]; rfl)
  have hws' := hW hz (by omega) hws
  have hr' : ∀ j : Nat, j < 64 → 0 ≤ (upd (A 0) s.toInt.toNat m j).toInt ∧ (upd (A 0) s.toInt.toNat m j).toInt ≤ 14 := fun j hj => by
    unfold upd
    split
    · omega
    · exact hr j hj
  have hmk : menOK (A' 0) := fun i hi => by
    have y := hr' i hi
    rw [← hA0] at y
    exact ⟨(A' 0 i).toNatClampNeg, by rw [fNc]; omega, fNi y.1⟩
  have cw : ∀ c, c < 2 → A' 3 c = bSn fWa c (upd (A 0) s.toInt.toNat m) 64 := fun c hc => by
    rw [hws' c hc, hbk.1, hA0]
    exact fBw t2 (fun i _ => rfl) hr' 64 (Nat.le_refl _)
  refine ⟨rfl, fBd_out hH ha hka hl hσ hmk (hK rk) hbk q2 q3 q4 q5 rfl, fBd_jx hH ha hka hl hσ hbk hX, fBd_fr0 hl hσ, fun ρ => fBd_fa hH ha hka hl hσ hbk ρ, rfl, ?_, ?_⟩
  · rw [← hA0]
    exact ⟨n0, ⟨ha, hka, 10, bd_fl n0 F0, fBd_a, rfl⟩, by have := hl.2.1; omega, hl.2.2.1 0 (by decide), fBd_r (j := 0) hl.1 (by decide)⟩
  · exact ⟨hr', n0 + 3, A' 3, ⟨ha, hka, 10, bd_fl n0 F0, fBd_a, rfl⟩, by have := hl.2.1; omega, hl.2.2.1 3 (by decide), fBd_r (j := 3) hl.1 (by decide), cw 0 (by decide), cw 1 (by decide)⟩
theorem ae_BOputW1 {l : Launch} {E : jE} {K : Nat → Nat} {n : Nat} : aMe (fF K n) l E jcl jtb lw_tbl fa_T K n (fJX K n) ag_BOputW1 := by
  intro p σ ρ hH hX hA hM
  have hG := aAG_of hA.1 (fun i e v he hv => (hA.2 i e v he hv).1)
  clear hA
  obtain ⟨v0, v1, v2, rfl, g0, g1, g2⟩ := fA_3 hG
  clear hG
  obtain ⟨a, rfl, ha, hka⟩ := fG_ref (by decide) g0
  obtain ⟨s, rfl, bs, ds⟩ := aG_int g1
  obtain ⟨m, rfl, bm, dm⟩ := aG_int g2
  dsimp only at bs ds bm dm
  obtain ⟨-, -, -, m4⟩ := hM
  have f0 : fB K n p 137 [fR a] σ := by
    obtain ⟨w, e6, e7⟩ := m4 (2193, [0]) (List.mem_of_getElem? (i := 0) rfl)
    obtain rfl : [fR a] = w := Option.some.inj (show some [fR a] = some w from e6)
    exact (fF_b (r := 2193) (by decide) rfl).mp e7
  have f1 : fB K n p 154 [fR a] σ := by
    obtain ⟨w, e6, e7⟩ := m4 (2465, [0]) (List.mem_of_getElem? (i := 1) rfl)
    obtain rfl : [fR a] = w := Option.some.inj (show some [fR a] = some w from e6)
    exact (fF_b (r := 2465) (by decide) rfl).mp e7
  have f2 : fB K n p 155 [fR a, fI s] σ := by
    obtain ⟨w, e6, e7⟩ := m4 (2482, [0, 1]) (List.mem_of_getElem? (i := 2) rfl)
    obtain rfl : [fR a, fI s] = w := Option.some.inj (show some [fR a, fI s] = some w from e6)
    exact (fF_b (r := 2482) (by decide) rfl).mp e7
  clear m4
  obtain ⟨b, g, e, w, l0⟩ := f0
  cases e
  obtain ⟨b, g9, e, w9, u⟩ := f1
  cases e
  obtain rfl := fMe_u w9 w
  obtain ⟨b, s8, g8, e, w8, l8⟩ := f2
  cases e
  obtain rfl := fMe_u w8 w
  refine jMet_post (fPutX hH hX ha hka ⟨bs, ds⟩ ⟨by omega, by omega⟩ w u (l8 _ (by omega) (Or.inr ⟨rfl, Nat.le_refl _⟩))) (fun r σ' n' hp => ?_)
  obtain ⟨rfl, p1, p2, p3, p4, rfl, p5, p6⟩ := hp
  refine ⟨rfl, p1, p2, p3, p4 _, rfl, [], ?_, ?_, [], List.mem_cons_self, fun f h => (by cases h)⟩
  · refine ⟨rfl, fun i e v he hv => ?_⟩
    match i, he, hv with
    | 0, he, hv => obtain rfl := Option.some.inj he; obtain rfl := Option.some.inj hv; exact ⟨⟨ha, Or.inl hka⟩, trivial⟩
    | 1, he, hv => obtain rfl := Option.some.inj he; obtain rfl := Option.some.inj hv; exact ⟨⟨bs, ds⟩, trivial⟩
    | 2, he, hv => obtain rfl := Option.some.inj he; obtain rfl := Option.some.inj hv; exact ⟨⟨bm, dm⟩, trivial⟩
    | k + 3, he, hv => simp [aPe, ag_BOputW1] at he
  · refine ⟨fun q h => (by cases h), fun q h => (by cases h), fun q h => (by cases h), (aAllc ⟨_, rfl, (fF_b (r := 2193) (by decide) rfl).mpr ?_⟩ (aAllc ⟨_, rfl, (fF_b (r := 2465) (by decide) rfl).mpr ?_⟩ (aAllc ⟨_, rfl, (fF_b (r := 2306) (by decide) rfl).mpr ?_⟩ (fun f h => by cases h))))⟩
    · refine ⟨_, _, rfl, p5, fun j hj => ?_⟩
      unfold upd
      split
      · unfold fOm; omega
      · exact l0 j hj
    · exact ⟨_, _, rfl, p5, p6⟩
    · refine ⟨_, _, _, rfl, p5, fun j hj h => ?_⟩
      unfold upd
      rw [if_neg (by omega)]
      exact l8 j hj (by omega)
theorem ae_BOputW9 {l : Launch} {E : jE} {K : Nat → Nat} {n : Nat} : aMe (fF K n) l E jcl jtb lw_tbl fa_T K n (fJX K n) ag_BOputW9 := by
  intro p σ ρ hH hX hA hM
  have hG := aAG_of hA.1 (fun i e v he hv => (hA.2 i e v he hv).1)
  clear hA
  obtain ⟨v0, v1, v2, rfl, g0, g1, g2⟩ := fA_3 hG
  clear hG
  obtain ⟨a, rfl, ha, hka⟩ := fG_ref (by decide) g0
  obtain ⟨s, rfl, bs, ds⟩ := aG_int g1
  obtain ⟨m, rfl, bm, dm⟩ := aG_int g2
  dsimp only at bs ds bm dm
  obtain ⟨-, -, -, m4⟩ := hM
  have f0 : fB K n p 137 [fR a] σ := by
    obtain ⟨w, e6, e7⟩ := m4 (2193, [0]) (List.mem_of_getElem? (i := 0) rfl)
    obtain rfl : [fR a] = w := Option.some.inj (show some [fR a] = some w from e6)
    exact (fF_b (r := 2193) (by decide) rfl).mp e7
  have f1 : fB K n p 154 [fR a] σ := by
    obtain ⟨w, e6, e7⟩ := m4 (2465, [0]) (List.mem_of_getElem? (i := 1) rfl)
    obtain rfl : [fR a] = w := Option.some.inj (show some [fR a] = some w from e6)
    exact (fF_b (r := 2465) (by decide) rfl).mp e7
  have f2 : fB K n p 155 [fR a, fI s] σ := by
    obtain ⟨w, e6, e7⟩ := m4 (2482, [0, 1]) (List.mem_of_getElem? (i := 2) rfl)
    obtain rfl : [fR a, fI s] = w := Option.some.inj (show some [fR a, fI s] = some w from e6)
    exact (fF_b (r := 2482) (by decide) rfl).mp e7
  clear m4
  obtain ⟨b, g, e, w, l0⟩ := f0
  cases e
  obtain ⟨b, g9, e, w9, u⟩ := f1
  cases e
  obtain rfl := fMe_u w9 w
  obtain ⟨b, s8, g8, e, w8, l8⟩ := f2
  cases e
  obtain rfl := fMe_u w8 w
  refine jMet_post (fPutX hH hX ha hka ⟨bs, ds⟩ ⟨by omega, by omega⟩ w u (l8 _ (by omega) (Or.inr ⟨rfl, Nat.le_refl _⟩))) (fun r σ' n' hp => ?_)
  obtain ⟨rfl, p1, p2, p3, p4, rfl, p5, p6⟩ := hp
  refine ⟨rfl, p1, p2, p3, p4 _, rfl, [], ?_, ?_, [], List.mem_cons_self, fun f h => (by cases h)⟩
  · refine ⟨rfl, fun i e v he hv => ?_⟩
    match i, he, hv with
    | 0, he, hv => obtain rfl := Option.some.inj he; obtain rfl := Option.some.inj hv; exact ⟨⟨ha, Or.inl hka⟩, trivial⟩
    | 1, he, hv => obtain rfl := Option.some.inj he; obtain rfl := Option.some.inj hv; exact ⟨⟨bs, ds⟩, trivial⟩
    | 2, he, hv => obtain rfl := Option.some.inj he; obtain rfl := Option.some.inj hv; exact ⟨⟨bm, dm⟩, trivial⟩
    | k + 3, he, hv => simp [aPe, ag_BOputW9] at he
  · refine ⟨fun q h => (by cases h), fun q h => (by cases h), fun q h => (by cases h), (aAllc ⟨_, rfl, (fF_b (r := 2193) (by decide) rfl).mpr ?_⟩ (aAllc ⟨_, rfl, (fF_b (r := 2465) (by decide) rfl).mpr ?_⟩ (aAllc ⟨_, rfl, (fF_b (r := 2306) (by decide) rfl).mpr ?_⟩ (fun f h => by cases h))))⟩
    · refine ⟨_, _, rfl, p5, fun j hj => ?_⟩
      unfold upd
      split
      · unfold fOm; omega
      · exact l0 j hj
    · exact ⟨_, _, rfl, p5, p6⟩
    · refine ⟨_, _, _, rfl, p5, fun j hj h => ?_⟩
      unfold upd
      rw [if_neg (by omega)]
      exact l8 j hj (by omega)
theorem ae_BOputS0 {l : Launch} {E : jE} {K : Nat → Nat} {n : Nat} : aMe (fF K n) l E jcl jtb lw_tbl fa_T K n (fJX K n) ag_BOputS0 := by
  intro p σ ρ hH hX hA hM
  have hG := aAG_of hA.1 (fun i e v he hv => (hA.2 i e v he hv).1)
  clear hA
  obtain ⟨v0, v1, v2, rfl, g0, g1, g2⟩ := fA_3 hG
  clear hG
  obtain ⟨a, rfl, ha, hka⟩ := fG_ref (by decide) g0
  obtain ⟨s, rfl, bs, ds⟩ := aG_int g1
  obtain ⟨m, rfl, bm, dm⟩ := aG_int g2
  dsimp only at bs ds bm dm
  obtain ⟨-, -, -, m4⟩ := hM
  have f0 : fB K n p 160 [fR a] σ := by
    obtain ⟨w, e6, e7⟩ := m4 (2561, [0]) (List.mem_of_getElem? (i := 0) rfl)
    obtain rfl : [fR a] = w := Option.some.inj (show some [fR a] = some w from e6)
    exact (fF_b (r := 2561) (by decide) rfl).mp e7
  have f1 : fB K n p 154 [fR a] σ := by
    obtain ⟨w, e6, e7⟩ := m4 (2465, [0]) (List.mem_of_getElem? (i := 1) rfl)
    obtain rfl : [fR a] = w := Option.some.inj (show some [fR a] = some w from e6)
    exact (fF_b (r := 2465) (by decide) rfl).mp e7
  clear m4
  obtain ⟨-, b, g, e, w, l0⟩ := f0
  cases e
  obtain ⟨b, g9, e, w9, u⟩ := f1
  cases e
  obtain rfl := fMe_u w9 w
  have hq : s.toInt.toNat = 0 := by omega
  refine jMet_post (fPutX hH hX ha hka ⟨by omega, by omega⟩ ⟨by omega, by omega⟩ w u (by rw [hq]; exact (l0 0 (by decide)).trans rfl)) (fun r σ' n' hp => ?_)
  obtain ⟨rfl, p1, p2, p3, p4, rfl, p5, p6⟩ := hp
  refine ⟨rfl, p1, p2, p3, p4 _, rfl, [], ?_, ?_, [], List.mem_cons_self, fun f h => (by cases h)⟩
  · refine ⟨rfl, fun i e v he hv => ?_⟩
    match i, he, hv with
    | 0, he, hv => obtain rfl := Option.some.inj he; obtain rfl := Option.some.inj hv; exact ⟨⟨ha, Or.inl hka⟩, trivial⟩
    | 1, he, hv => obtain rfl := Option.some.inj he; obtain rfl := Option.some.inj hv; exact ⟨⟨bs, ds⟩, trivial⟩
    | 2, he, hv => obtain rfl := Option.some.inj he; obtain rfl := Option.some.inj hv; exact ⟨⟨bm, dm⟩, trivial⟩
    | k + 3, he, hv => simp [aPe, ag_BOputS0] at he
  · refine ⟨fun q h => (by cases h), fun q h => (by cases h), fun q h => (by cases h), (aAllc ⟨_, rfl, (fF_b (r := 2577) (by decide) rfl).mpr ?_⟩ (aAllc ⟨_, rfl, (fF_b (r := 2465) (by decide) rfl).mpr ?_⟩ (fun f h => by cases h)))⟩
    · refine ⟨by decide, _, _, rfl, p5, fun j hj => ?_⟩
      rw [show 161 - 160 = 1 from rfl, fFst_0 j hj]
      unfold upd
      rw [hq]
      split
      · omega
      · exact l0 j hj
    · exact ⟨_, _, rfl, p5, p6⟩
theorem ae_BOputS1 {l : Launch} {E : jE} {K : Nat → Nat} {n : Nat} : aMe (fF K n) l E jcl jtb lw_tbl fa_T K n (fJX K n) ag_BOputS1 := by
  intro p σ ρ hH hX hA hM
  have hG := aAG_of hA.1 (fun i e v he hv => (hA.2 i e v he hv).1)
  clear hA
  obtain ⟨v0, v1, v2, rfl, g0, g1, g2⟩ := fA_3 hG
  clear hG
  obtain ⟨a, rfl, ha, hka⟩ := fG_ref (by decide) g0
  obtain ⟨s, rfl, bs, ds⟩ := aG_int g1
  obtain ⟨m, rfl, bm, dm⟩ := aG_int g2
  dsimp only at bs ds bm dm
  obtain ⟨-, -, -, m4⟩ := hM
  have f0 : fB K n p 161 [fR a] σ := by
    obtain ⟨w, e6, e7⟩ := m4 (2577, [0]) (List.mem_of_getElem? (i := 0) rfl)
    obtain rfl : [fR a] = w := Option.some.inj (show some [fR a] = some w from e6)
    exact (fF_b (r := 2577) (by decide) rfl).mp e7
  have f1 : fB K n p 154 [fR a] σ := by
    obtain ⟨w, e6, e7⟩ := m4 (2465, [0]) (List.mem_of_getElem? (i := 1) rfl)
    obtain rfl : [fR a] = w := Option.some.inj (show some [fR a] = some w from e6)
    exact (fF_b (r := 2465) (by decide) rfl).mp e7
  clear m4
  obtain ⟨-, b, g, e, w, l0⟩ := f0
  cases e
  obtain ⟨b, g9, e, w9, u⟩ := f1
  cases e
  obtain rfl := fMe_u w9 w
  have hq : s.toInt.toNat = 8 := by omega
  refine jMet_post (fPutX hH hX ha hka ⟨by omega, by omega⟩ ⟨by omega, by omega⟩ w u (by rw [hq]; exact (l0 8 (by decide)).trans rfl)) (fun r σ' n' hp => ?_)
  obtain ⟨rfl, p1, p2, p3, p4, rfl, p5, p6⟩ := hp
  refine ⟨rfl, p1, p2, p3, p4 _, rfl, [], ?_, ?_, [], List.mem_cons_self, fun f h => (by cases h)⟩
  · refine ⟨rfl, fun i e v he hv => ?_⟩
    match i, he, hv with
    | 0, he, hv => obtain rfl := Option.some.inj he; obtain rfl := Option.some.inj hv; exact ⟨⟨ha, Or.inl hka⟩, trivial⟩
    | 1, he, hv => obtain rfl := Option.some.inj he; obtain rfl := Option.some.inj hv; exact ⟨⟨bs, ds⟩, trivial⟩
    | 2, he, hv => obtain rfl := Option.some.inj he; obtain rfl := Option.some.inj hv; exact ⟨⟨bm, dm⟩, trivial⟩
    | k + 3, he, hv => simp [aPe, ag_BOputS1] at he
  · refine ⟨fun q h => (by cases h), fun q h => (by cases h), fun q h => (by cases h), (aAllc ⟨_, rfl, (fF_b (r := 2593) (by decide) rfl).mpr ?_⟩ (aAllc ⟨_, rfl, (fF_b (r := 2465) (by decide) rfl).mpr ?_⟩ (fun f h => by cases h)))⟩
    · refine ⟨by decide, _, _, rfl, p5, fun j hj => ?_⟩
      rw [show 162 - 160 = 2 from rfl, fFst_1 j hj]
      unfold upd
      rw [hq]
      split
      · omega
      · exact l0 j hj
    · exact ⟨_, _, rfl, p5, p6⟩
theorem ae_BOputS2 {l : Launch} {E : jE} {K : Nat → Nat} {n : Nat} : aMe (fF K n) l E jcl jtb lw_tbl fa_T K n (fJX K n) ag_BOputS2 := by
  intro p σ ρ hH hX hA hM
  have hG := aAG_of hA.1 (fun i e v he hv => (hA.2 i e v he hv).1)
  clear hA
  obtain ⟨v0, v1, v2, rfl, g0, g1, g2⟩ := fA_3 hG
  clear hG
  obtain ⟨a, rfl, ha, hka⟩ := fG_ref (by decide) g0
  obtain ⟨s, rfl, bs, ds⟩ := aG_int g1
  obtain ⟨m, rfl, bm, dm⟩ := aG_int g2
  dsimp only at bs ds bm dm
  obtain ⟨-, -, -, m4⟩ := hM
  have f0 : fB K n p 162 [fR a] σ := by
    obtain ⟨w, e6, e7⟩ := m4 (2593, [0]) (List.mem_of_getElem? (i := 0) rfl)
    obtain rfl : [fR a] = w := Option.some.inj (show some [fR a] = some w from e6)
    exact (fF_b (r := 2593) (by decide) rfl).mp e7
  have f1 : fB K n p 154 [fR a] σ := by
    obtain ⟨w, e6, e7⟩ := m4 (2465, [0]) (List.mem_of_getElem? (i := 1) rfl)
    obtain rfl : [fR a] = w := Option.some.inj (show some [fR a] = some w from e6)
    exact (fF_b (r := 2465) (by decide) rfl).mp e7
  clear m4
  obtain ⟨-, b, g, e, w, l0⟩ := f0
  cases e
  obtain ⟨b, g9, e, w9, u⟩ := f1
  cases e
  obtain rfl := fMe_u w9 w
  have hq : s.toInt.toNat = 48 := by omega
  refine jMet_post (fPutX hH hX ha hka ⟨by omega, by omega⟩ ⟨by omega, by omega⟩ w u (by rw [hq]; exact (l0 48 (by decide)).trans rfl)) (fun r σ' n' hp => ?_)
  obtain ⟨rfl, p1, p2, p3, p4, rfl, p5, p6⟩ := hp
  refine ⟨rfl, p1, p2, p3, p4 _, rfl, [], ?_, ?_, [], List.mem_cons_self, fun f h => (by cases h)⟩
  · refine ⟨rfl, fun i e v he hv => ?_⟩
    match i, he, hv with
    | 0, he, hv => obtain rfl := Option.some.inj he; obtain rfl := Option.some.inj hv; exact ⟨⟨ha, Or.inl hka⟩, trivial⟩
    | 1, he, hv => obtain rfl := Option.some.inj he; obtain rfl := Option.some.inj hv; exact ⟨⟨bs, ds⟩, trivial⟩
    | 2, he, hv => obtain rfl := Option.some.inj he; obtain rfl := Option.some.inj hv; exact ⟨⟨bm, dm⟩, trivial⟩
    | k + 3, he, hv => simp [aPe, ag_BOputS2] at he
  · refine ⟨fun q h => (by cases h), fun q h => (by cases h), fun q h => (by cases h), (aAllc ⟨_, rfl, (fF_b (r := 2609) (by decide) rfl).mpr ?_⟩ (aAllc ⟨_, rfl, (fF_b (r := 2465) (by decide) rfl).mpr ?_⟩ (fun f h => by cases h)))⟩
    · refine ⟨by decide, _, _, rfl, p5, fun j hj => ?_⟩
      rw [show 163 - 160 = 3 from rfl, fFst_2 j hj]
      unfold upd
      rw [hq]
      split
      · omega
      · exact l0 j hj
    · exact ⟨_, _, rfl, p5, p6⟩
theorem ae_BOputS3 {l : Launch} {E : jE} {K : Nat → Nat} {n : Nat} : aMe (fF K n) l E jcl jtb lw_tbl fa_T K n (fJX K n) ag_BOputS3 := by
  intro p σ ρ hH hX hA hM
  have hG := aAG_of hA.1 (fun i e v he hv => (hA.2 i e v he hv).1)
  clear hA
  obtain ⟨v0, v1, v2, rfl, g0, g1, g2⟩ := fA_3 hG
  clear hG
  obtain ⟨a, rfl, ha, hka⟩ := fG_ref (by decide) g0
  obtain ⟨s, rfl, bs, ds⟩ := aG_int g1
  obtain ⟨m, rfl, bm, dm⟩ := aG_int g2
  dsimp only at bs ds bm dm
  obtain ⟨-, -, -, m4⟩ := hM
  have f0 : fB K n p 163 [fR a] σ := by
    obtain ⟨w, e6, e7⟩ := m4 (2609, [0]) (List.mem_of_getElem? (i := 0) rfl)
    obtain rfl : [fR a] = w := Option.some.inj (show some [fR a] = some w from e6)
    exact (fF_b (r := 2609) (by decide) rfl).mp e7
  have f1 : fB K n p 154 [fR a] σ := by
    obtain ⟨w, e6, e7⟩ := m4 (2465, [0]) (List.mem_of_getElem? (i := 1) rfl)
    obtain rfl : [fR a] = w := Option.some.inj (show some [fR a] = some w from e6)
    exact (fF_b (r := 2465) (by decide) rfl).mp e7
  clear m4
  obtain ⟨-, b, g, e, w, l0⟩ := f0
  cases e
  obtain ⟨b, g9, e, w9, u⟩ := f1
  cases e
  obtain rfl := fMe_u w9 w
  have hq : s.toInt.toNat = 56 := by omega
  refine jMet_post (fPutX hH hX ha hka ⟨by omega, by omega⟩ ⟨by omega, by omega⟩ w u (by rw [hq]; exact (l0 56 (by decide)).trans rfl)) (fun r σ' n' hp => ?_)
  obtain ⟨rfl, p1, p2, p3, p4, rfl, p5, p6⟩ := hp
  refine ⟨rfl, p1, p2, p3, p4 _, rfl, [], ?_, ?_, [], List.mem_cons_self, fun f h => (by cases h)⟩
  · refine ⟨rfl, fun i e v he hv => ?_⟩
    match i, he, hv with
    | 0, he, hv => obtain rfl := Option.some.inj he; obtain rfl := Option.some.inj hv; exact ⟨⟨ha, Or.inl hka⟩, trivial⟩
    | 1, he, hv => obtain rfl := Option.some.inj he; obtain rfl := Option.some.inj hv; exact ⟨⟨bs, ds⟩, trivial⟩
    | 2, he, hv => obtain rfl := Option.some.inj he; obtain rfl := Option.some.inj hv; exact ⟨⟨bm, dm⟩, trivial⟩
    | k + 3, he, hv => simp [aPe, ag_BOputS3] at he
  · refine ⟨fun q h => (by cases h), fun q h => (by cases h), fun q h => (by cases h), (aAllc ⟨_, rfl, (fF_b (r := 2625) (by decide) rfl).mpr ?_⟩ (aAllc ⟨_, rfl, (fF_b (r := 2465) (by decide) rfl).mpr ?_⟩ (fun f h => by cases h)))⟩
    · refine ⟨by decide, _, _, rfl, p5, fun j hj => ?_⟩
      rw [show 164 - 160 = 4 from rfl, fFst_3 j hj]
      unfold upd
      rw [hq]
      split
      · omega
      · exact l0 j hj
    · exact ⟨_, _, rfl, p5, p6⟩
theorem ae_BOputS4 {l : Launch} {E : jE} {K : Nat → Nat} {n : Nat} : aMe (fF K n) l E jcl jtb lw_tbl fa_T K n (fJX K n) ag_BOputS4 := by
  intro p σ ρ hH hX hA hM
  have hG := aAG_of hA.1 (fun i e v he hv => (hA.2 i e v he hv).1)
  clear hA
  obtain ⟨v0, v1, v2, rfl, g0, g1, g2⟩ := fA_3 hG
  clear hG
  obtain ⟨a, rfl, ha, hka⟩ := fG_ref (by decide) g0
  obtain ⟨s, rfl, bs, ds⟩ := aG_int g1
  obtain ⟨m, rfl, bm, dm⟩ := aG_int g2
  dsimp only at bs ds bm dm
  obtain ⟨-, -, -, m4⟩ := hM
  have f0 : fB K n p 164 [fR a] σ := by
    obtain ⟨w, e6, e7⟩ := m4 (2625, [0]) (List.mem_of_getElem? (i := 0) rfl)
    obtain rfl : [fR a] = w := Option.some.inj (show some [fR a] = some w from e6)
    exact (fF_b (r := 2625) (by decide) rfl).mp e7
  have f1 : fB K n p 154 [fR a] σ := by
    obtain ⟨w, e6, e7⟩ := m4 (2465, [0]) (List.mem_of_getElem? (i := 1) rfl)
    obtain rfl : [fR a] = w := Option.some.inj (show some [fR a] = some w from e6)
    exact (fF_b (r := 2465) (by decide) rfl).mp e7
  clear m4
  obtain ⟨-, b, g, e, w, l0⟩ := f0
  cases e
  obtain ⟨b, g9, e, w9, u⟩ := f1
  cases e
  obtain rfl := fMe_u w9 w
  have hq : s.toInt.toNat = 1 := by omega
  refine jMet_post (fPutX hH hX ha hka ⟨by omega, by omega⟩ ⟨by omega, by omega⟩ w u (by rw [hq]; exact (l0 1 (by decide)).trans rfl)) (fun r σ' n' hp => ?_)
  obtain ⟨rfl, p1, p2, p3, p4, rfl, p5, p6⟩ := hp
  refine ⟨rfl, p1, p2, p3, p4 _, rfl, [], ?_, ?_, [], List.mem_cons_self, fun f h => (by cases h)⟩
  · refine ⟨rfl, fun i e v he hv => ?_⟩
    match i, he, hv with
    | 0, he, hv => obtain rfl := Option.some.inj he; obtain rfl := Option.some.inj hv; exact ⟨⟨ha, Or.inl hka⟩, trivial⟩
    | 1, he, hv => obtain rfl := Option.some.inj he; obtain rfl := Option.some.inj hv; exact ⟨⟨bs, ds⟩, trivial⟩
    | 2, he, hv => obtain rfl := Option.some.inj he; obtain rfl := Option.some.inj hv; exact ⟨⟨bm, dm⟩, trivial⟩
    | k + 3, he, hv => simp [aPe, ag_BOputS4] at he
  · refine ⟨fun q h => (by cases h), fun q h => (by cases h), fun q h => (by cases h), (aAllc ⟨_, rfl, (fF_b (r := 2641) (by decide) rfl).mpr ?_⟩ (aAllc ⟨_, rfl, (fF_b (r := 2465) (by decide) rfl).mpr ?_⟩ (fun f h => by cases h)))⟩
    · refine ⟨by decide, _, _, rfl, p5, fun j hj => ?_⟩
      rw [show 165 - 160 = 5 from rfl, fFst_4 j hj]
      unfold upd
      rw [hq]
      split
      · omega
      · exact l0 j hj
    · exact ⟨_, _, rfl, p5, p6⟩
theorem ae_BOputS5 {l : Launch} {E : jE} {K : Nat → Nat} {n : Nat} : aMe (fF K n) l E jcl jtb lw_tbl fa_T K n (fJX K n) ag_BOputS5 := by
  intro p σ ρ hH hX hA hM
  have hG := aAG_of hA.1 (fun i e v he hv => (hA.2 i e v he hv).1)
  clear hA
  obtain ⟨v0, v1, v2, rfl, g0, g1, g2⟩ := fA_3 hG
  clear hG
  obtain ⟨a, rfl, ha, hka⟩ := fG_ref (by decide) g0
  obtain ⟨s, rfl, bs, ds⟩ := aG_int g1
  obtain ⟨m, rfl, bm, dm⟩ := aG_int g2
  dsimp only at bs ds bm dm
  obtain ⟨-, -, -, m4⟩ := hM
  have f0 : fB K n p 165 [fR a] σ := by
    obtain ⟨w, e6, e7⟩ := m4 (2641, [0]) (List.mem_of_getElem? (i := 0) rfl)
    obtain rfl : [fR a] = w := Option.some.inj (show some [fR a] = some w from e6)
    exact (fF_b (r := 2641) (by decide) rfl).mp e7
  have f1 : fB K n p 154 [fR a] σ := by
    obtain ⟨w, e6, e7⟩ := m4 (2465, [0]) (List.mem_of_getElem? (i := 1) rfl)
    obtain rfl : [fR a] = w := Option.some.inj (show some [fR a] = some w from e6)
    exact (fF_b (r := 2465) (by decide) rfl).mp e7
  clear m4
  obtain ⟨-, b, g, e, w, l0⟩ := f0
  cases e
  obtain ⟨b, g9, e, w9, u⟩ := f1
  cases e
  obtain rfl := fMe_u w9 w
  have hq : s.toInt.toNat = 9 := by omega
  refine jMet_post (fPutX hH hX ha hka ⟨by omega, by omega⟩ ⟨by omega, by omega⟩ w u (by rw [hq]; exact (l0 9 (by decide)).trans rfl)) (fun r σ' n' hp => ?_)
  obtain ⟨rfl, p1, p2, p3, p4, rfl, p5, p6⟩ := hp
  refine ⟨rfl, p1, p2, p3, p4 _, rfl, [], ?_, ?_, [], List.mem_cons_self, fun f h => (by cases h)⟩
  · refine ⟨rfl, fun i e v he hv => ?_⟩
    match i, he, hv with
    | 0, he, hv => obtain rfl := Option.some.inj he; obtain rfl := Option.some.inj hv; exact ⟨⟨ha, Or.inl hka⟩, trivial⟩
    | 1, he, hv => obtain rfl := Option.some.inj he; obtain rfl := Option.some.inj hv; exact ⟨⟨bs, ds⟩, trivial⟩
    | 2, he, hv => obtain rfl := Option.some.inj he; obtain rfl := Option.some.inj hv; exact ⟨⟨bm, dm⟩, trivial⟩
    | k + 3, he, hv => simp [aPe, ag_BOputS5] at he
  · refine ⟨fun q h => (by cases h), fun q h => (by cases h), fun q h => (by cases h), (aAllc ⟨_, rfl, (fF_b (r := 2657) (by decide) rfl).mpr ?_⟩ (aAllc ⟨_, rfl, (fF_b (r := 2465) (by decide) rfl).mpr ?_⟩ (fun f h => by cases h)))⟩
    · refine ⟨by decide, _, _, rfl, p5, fun j hj => ?_⟩
      rw [show 166 - 160 = 6 from rfl, fFst_5 j hj]
      unfold upd
      rw [hq]
      split
      · omega
      · exact l0 j hj
    · exact ⟨_, _, rfl, p5, p6⟩
theorem ae_BOputS6 {l : Launch} {E : jE} {K : Nat → Nat} {n : Nat} : aMe (fF K n) l E jcl jtb lw_tbl fa_T K n (fJX K n) ag_BOputS6 := by
  intro p σ ρ hH hX hA hM
  have hG := aAG_of hA.1 (fun i e v he hv => (hA.2 i e v he hv).1)
  clear hA
  obtain ⟨v0, v1, v2, rfl, g0, g1, g2⟩ := fA_3 hG
  clear hG
  obtain ⟨a, rfl, ha, hka⟩ := fG_ref (by decide) g0
  obtain ⟨s, rfl, bs, ds⟩ := aG_int g1
  obtain ⟨m, rfl, bm, dm⟩ := aG_int g2
  dsimp only at bs ds bm dm
  obtain ⟨-, -, -, m4⟩ := hM
  have f0 : fB K n p 166 [fR a] σ := by
    obtain ⟨w, e6, e7⟩ := m4 (2657, [0]) (List.mem_of_getElem? (i := 0) rfl)
    obtain rfl : [fR a] = w := Option.some.inj (show some [fR a] = some w from e6)
    exact (fF_b (r := 2657) (by decide) rfl).mp e7
  have f1 : fB K n p 154 [fR a] σ := by
    obtain ⟨w, e6, e7⟩ := m4 (2465, [0]) (List.mem_of_getElem? (i := 1) rfl)
    obtain rfl : [fR a] = w := Option.some.inj (show some [fR a] = some w from e6)
    exact (fF_b (r := 2465) (by decide) rfl).mp e7
  clear m4
  obtain ⟨-, b, g, e, w, l0⟩ := f0
  cases e
  obtain ⟨b, g9, e, w9, u⟩ := f1
  cases e
  obtain rfl := fMe_u w9 w
  have hq : s.toInt.toNat = 49 := by omega
  refine jMet_post (fPutX hH hX ha hka ⟨by omega, by omega⟩ ⟨by omega, by omega⟩ w u (by rw [hq]; exact (l0 49 (by decide)).trans rfl)) (fun r σ' n' hp => ?_)
  obtain ⟨rfl, p1, p2, p3, p4, rfl, p5, p6⟩ := hp
  refine ⟨rfl, p1, p2, p3, p4 _, rfl, [], ?_, ?_, [], List.mem_cons_self, fun f h => (by cases h)⟩
  · refine ⟨rfl, fun i e v he hv => ?_⟩
    match i, he, hv with
    | 0, he, hv => obtain rfl := Option.some.inj he; obtain rfl := Option.some.inj hv; exact ⟨⟨ha, Or.inl hka⟩, trivial⟩
    | 1, he, hv => obtain rfl := Option.some.inj he; obtain rfl := Option.some.inj hv; exact ⟨⟨bs, ds⟩, trivial⟩
    | 2, he, hv => obtain rfl := Option.some.inj he; obtain rfl := Option.some.inj hv; exact ⟨⟨bm, dm⟩, trivial⟩
    | k + 3, he, hv => simp [aPe, ag_BOputS6] at he
  · refine ⟨fun q h => (by cases h), fun q h => (by cases h), fun q h => (by cases h), (aAllc ⟨_, rfl, (fF_b (r := 2673) (by decide) rfl).mpr ?_⟩ (aAllc ⟨_, rfl, (fF_b (r := 2465) (by decide) rfl).mpr ?_⟩ (fun f h => by cases h)))⟩
    · refine ⟨by decide, _, _, rfl, p5, fun j hj => ?_⟩
      rw [show 167 - 160 = 7 from rfl, fFst_6 j hj]
      unfold upd
      rw [hq]
      split
      · omega
      · exact l0 j hj
    · exact ⟨_, _, rfl, p5, p6⟩
theorem ae_BOputS7 {l : Launch} {E : jE} {K : Nat → Nat} {n : Nat} : aMe (fF K n) l E jcl jtb lw_tbl fa_T K n (fJX K n) ag_BOputS7 := by
  intro p σ ρ hH hX hA hM
  have hG := aAG_of hA.1 (fun i e v he hv => (hA.2 i e v he hv).1)
  clear hA
  obtain ⟨v0, v1, v2, rfl, g0, g1, g2⟩ := fA_3 hG
  clear hG
  obtain ⟨a, rfl, ha, hka⟩ := fG_ref (by decide) g0
  obtain ⟨s, rfl, bs, ds⟩ := aG_int g1
  obtain ⟨m, rfl, bm, dm⟩ := aG_int g2
  dsimp only at bs ds bm dm
  obtain ⟨-, -, -, m4⟩ := hM
  have f0 : fB K n p 167 [fR a] σ := by
    obtain ⟨w, e6, e7⟩ := m4 (2673, [0]) (List.mem_of_getElem? (i := 0) rfl)
    obtain rfl : [fR a] = w := Option.some.inj (show some [fR a] = some w from e6)
    exact (fF_b (r := 2673) (by decide) rfl).mp e7
  have f1 : fB K n p 154 [fR a] σ := by
    obtain ⟨w, e6, e7⟩ := m4 (2465, [0]) (List.mem_of_getElem? (i := 1) rfl)
    obtain rfl : [fR a] = w := Option.some.inj (show some [fR a] = some w from e6)
    exact (fF_b (r := 2465) (by decide) rfl).mp e7
  clear m4
  obtain ⟨-, b, g, e, w, l0⟩ := f0
  cases e
  obtain ⟨b, g9, e, w9, u⟩ := f1
  cases e
  obtain rfl := fMe_u w9 w
  have hq : s.toInt.toNat = 57 := by omega
  refine jMet_post (fPutX hH hX ha hka ⟨by omega, by omega⟩ ⟨by omega, by omega⟩ w u (by rw [hq]; exact (l0 57 (by decide)).trans rfl)) (fun r σ' n' hp => ?_)
  obtain ⟨rfl, p1, p2, p3, p4, rfl, p5, p6⟩ := hp
  refine ⟨rfl, p1, p2, p3, p4 _, rfl, [], ?_, ?_, [], List.mem_cons_self, fun f h => (by cases h)⟩
  · refine ⟨rfl, fun i e v he hv => ?_⟩
    match i, he, hv with
    | 0, he, hv => obtain rfl := Option.some.inj he; obtain rfl := Option.some.inj hv; exact ⟨⟨ha, Or.inl hka⟩, trivial⟩
    | 1, he, hv => obtain rfl := Option.some.inj he; obtain rfl := Option.some.inj hv; exact ⟨⟨bs, ds⟩, trivial⟩
    | 2, he, hv => obtain rfl := Option.some.inj he; obtain rfl := Option.some.inj hv; exact ⟨⟨bm, dm⟩, trivial⟩
    | k + 3, he, hv => simp [aPe, ag_BOputS7] at he
  · refine ⟨fun q h => (by cases h), fun q h => (by cases h), fun q h => (by cases h), (aAllc ⟨_, rfl, (fF_b (r := 2689) (by decide) rfl).mpr ?_⟩ (aAllc ⟨_, rfl, (fF_b (r := 2465) (by decide) rfl).mpr ?_⟩ (fun f h => by cases h)))⟩
    · refine ⟨by decide, _, _, rfl, p5, fun j hj => ?_⟩
      rw [show 168 - 160 = 8 from rfl, fFst_7 j hj]
      unfold upd
      rw [hq]
      split
      · omega
      · exact l0 j hj
    · exact ⟨_, _, rfl, p5, p6⟩
theorem ae_BOputS8 {l : Launch} {E : jE} {K : Nat → Nat} {n : Nat} : aMe (fF K n) l E jcl jtb lw_tbl fa_T K n (fJX K n) ag_BOputS8 := by
  intro p σ ρ hH hX hA hM
  have hG := aAG_of hA.1 (fun i e v he hv => (hA.2 i e v he hv).1)
  clear hA
  obtain ⟨v0, v1, v2, rfl, g0, g1, g2⟩ := fA_3 hG
  clear hG
  obtain ⟨a, rfl, ha, hka⟩ := fG_ref (by decide) g0
  obtain ⟨s, rfl, bs, ds⟩ := aG_int g1
  obtain ⟨m, rfl, bm, dm⟩ := aG_int g2
  dsimp only at bs ds bm dm
  obtain ⟨-, -, -, m4⟩ := hM
  have f0 : fB K n p 168 [fR a] σ := by
    obtain ⟨w, e6, e7⟩ := m4 (2689, [0]) (List.mem_of_getElem? (i := 0) rfl)
    obtain rfl : [fR a] = w := Option.some.inj (show some [fR a] = some w from e6)
    exact (fF_b (r := 2689) (by decide) rfl).mp e7
  have f1 : fB K n p 154 [fR a] σ := by
    obtain ⟨w, e6, e7⟩ := m4 (2465, [0]) (List.mem_of_getElem? (i := 1) rfl)
    obtain rfl : [fR a] = w := Option.some.inj (show some [fR a] = some w from e6)
    exact (fF_b (r := 2465) (by decide) rfl).mp e7
  clear m4
  obtain ⟨-, b, g, e, w, l0⟩ := f0
  cases e
  obtain ⟨b, g9, e, w9, u⟩ := f1
  cases e
  obtain rfl := fMe_u w9 w
  have hq : s.toInt.toNat = 2 := by omega
  refine jMet_post (fPutX hH hX ha hka ⟨by omega, by omega⟩ ⟨by omega, by omega⟩ w u (by rw [hq]; exact (l0 2 (by decide)).trans rfl)) (fun r σ' n' hp => ?_)
  obtain ⟨rfl, p1, p2, p3, p4, rfl, p5, p6⟩ := hp
  refine ⟨rfl, p1, p2, p3, p4 _, rfl, [], ?_, ?_, [], List.mem_cons_self, fun f h => (by cases h)⟩
  · refine ⟨rfl, fun i e v he hv => ?_⟩
    match i, he, hv with
    | 0, he, hv => obtain rfl := Option.some.inj he; obtain rfl := Option.some.inj hv; exact ⟨⟨ha, Or.inl hka⟩, trivial⟩
    | 1, he, hv => obtain rfl := Option.some.inj he; obtain rfl := Option.some.inj hv; exact ⟨⟨bs, ds⟩, trivial⟩
    | 2, he, hv => obtain rfl := Option.some.inj he; obtain rfl := Option.some.inj hv; exact ⟨⟨bm, dm⟩, trivial⟩
    | k + 3, he, hv => simp [aPe, ag_BOputS8] at he
  · refine ⟨fun q h => (by cases h), fun q h => (by cases h), fun q h => (by cases h), (aAllc ⟨_, rfl, (fF_b (r := 2705) (by decide) rfl).mpr ?_⟩ (aAllc ⟨_, rfl, (fF_b (r := 2465) (by decide) rfl).mpr ?_⟩ (fun f h => by cases h)))⟩
    · refine ⟨by decide, _, _, rfl, p5, fun j hj => ?_⟩
      rw [show 169 - 160 = 9 from rfl, fFst_8 j hj]
      unfold upd
      rw [hq]
      split
      · omega
      · exact l0 j hj
    · exact ⟨_, _, rfl, p5, p6⟩
theorem ae_BOputS9 {l : Launch} {E : jE} {K : Nat → Nat} {n : Nat} : aMe (fF K n) l E jcl jtb lw_tbl fa_T K n (fJX K n) ag_BOputS9 := by
  intro p σ ρ hH hX hA hM
  have hG := aAG_of hA.1 (fun i e v he hv => (hA.2 i e v he hv).1)
  clear hA
  obtain ⟨v0, v1, v2, rfl, g0, g1, g2⟩ := fA_3 hG
  clear hG
  obtain ⟨a, rfl, ha, hka⟩ := fG_ref (by decide) g0
  obtain ⟨s, rfl, bs, ds⟩ := aG_int g1
  obtain ⟨m, rfl, bm, dm⟩ := aG_int g2
  dsimp only at bs ds bm dm
  obtain ⟨-, -, -, m4⟩ := hM
  have f0 : fB K n p 169 [fR a] σ := by
    obtain ⟨w, e6, e7⟩ := m4 (2705, [0]) (List.mem_of_getElem? (i := 0) rfl)
    obtain rfl : [fR a] = w := Option.some.inj (show some [fR a] = some w from e6)
    exact (fF_b (r := 2705) (by decide) rfl).mp e7
  have f1 : fB K n p 154 [fR a] σ := by
    obtain ⟨w, e6, e7⟩ := m4 (2465, [0]) (List.mem_of_getElem? (i := 1) rfl)
    obtain rfl : [fR a] = w := Option.some.inj (show some [fR a] = some w from e6)
    exact (fF_b (r := 2465) (by decide) rfl).mp e7
  clear m4
  obtain ⟨-, b, g, e, w, l0⟩ := f0
  cases e
  obtain ⟨b, g9, e, w9, u⟩ := f1
  cases e
  obtain rfl := fMe_u w9 w
  have hq : s.toInt.toNat = 10 := by omega
  refine jMet_post (fPutX hH hX ha hka ⟨by omega, by omega⟩ ⟨by omega, by omega⟩ w u (by rw [hq]; exact (l0 10 (by decide)).trans rfl)) (fun r σ' n' hp => ?_)
  obtain ⟨rfl, p1, p2, p3, p4, rfl, p5, p6⟩ := hp
  refine ⟨rfl, p1, p2, p3, p4 _, rfl, [], ?_, ?_, [], List.mem_cons_self, fun f h => (by cases h)⟩
  · refine ⟨rfl, fun i e v he hv => ?_⟩
    match i, he, hv with
    | 0, he, hv => obtain rfl := Option.some.inj he; obtain rfl := Option.some.inj hv; exact ⟨⟨ha, Or.inl hka⟩, trivial⟩
    | 1, he, hv => obtain rfl := Option.some.inj he; obtain rfl := Option.some.inj hv; exact ⟨⟨bs, ds⟩, trivial⟩
    | 2, he, hv => obtain rfl := Option.some.inj he; obtain rfl := Option.some.inj hv; exact ⟨⟨bm, dm⟩, trivial⟩
    | k + 3, he, hv => simp [aPe, ag_BOputS9] at he
  · refine ⟨fun q h => (by cases h), fun q h => (by cases h), fun q h => (by cases h), (aAllc ⟨_, rfl, (fF_b (r := 2721) (by decide) rfl).mpr ?_⟩ (aAllc ⟨_, rfl, (fF_b (r := 2465) (by decide) rfl).mpr ?_⟩ (fun f h => by cases h)))⟩
    · refine ⟨by decide, _, _, rfl, p5, fun j hj => ?_⟩
      rw [show 170 - 160 = 10 from rfl, fFst_9 j hj]
      unfold upd
      rw [hq]
      split
      · omega
      · exact l0 j hj
    · exact ⟨_, _, rfl, p5, p6⟩
theorem ae_BOputS10 {l : Launch} {E : jE} {K : Nat → Nat} {n : Nat} : aMe (fF K n) l E jcl jtb lw_tbl fa_T K n (fJX K n) ag_BOputS10 := by
  intro p σ ρ hH hX hA hM
  have hG := aAG_of hA.1 (fun i e v he hv => (hA.2 i e v he hv).1)
  clear hA
  obtain ⟨v0, v1, v2, rfl, g0, g1, g2⟩ := fA_3 hG
  clear hG
  obtain ⟨a, rfl, ha, hka⟩ := fG_ref (by decide) g0
  obtain ⟨s, rfl, bs, ds⟩ := aG_int g1
  obtain ⟨m, rfl, bm, dm⟩ := aG_int g2
  dsimp only at bs ds bm dm
  obtain ⟨-, -, -, m4⟩ := hM
  have f0 : fB K n p 170 [fR a] σ := by
    obtain ⟨w, e6, e7⟩ := m4 (2721, [0]) (List.mem_of_getElem? (i := 0) rfl)
    obtain rfl : [fR a] = w := Option.some.inj (show some [fR a] = some w from e6)
    exact (fF_b (r := 2721) (by decide) rfl).mp e7
  have f1 : fB K n p 154 [fR a] σ := by
    obtain ⟨w, e6, e7⟩ := m4 (2465, [0]) (List.mem_of_getElem? (i := 1) rfl)
    obtain rfl : [fR a] = w := Option.some.inj (show some [fR a] = some w from e6)
    exact (fF_b (r := 2465) (by decide) rfl).mp e7
  clear m4
  obtain ⟨-, b, g, e, w, l0⟩ := f0
  cases e
  obtain ⟨b, g9, e, w9, u⟩ := f1
  cases e
  obtain rfl := fMe_u w9 w
  have hq : s.toInt.toNat = 50 := by omega
  refine jMet_post (fPutX hH hX ha hka ⟨by omega, by omega⟩ ⟨by omega, by omega⟩ w u (by rw [hq]; exact (l0 50 (by decide)).trans rfl)) (fun r σ' n' hp => ?_)
  obtain ⟨rfl, p1, p2, p3, p4, rfl, p5, p6⟩ := hp
  refine ⟨rfl, p1, p2, p3, p4 _, rfl, [], ?_, ?_, [], List.mem_cons_self, fun f h => (by cases h)⟩
  · refine ⟨rfl, fun i e v he hv => ?_⟩
    match i, he, hv with
    | 0, he, hv => obtain rfl := Option.some.inj he; obtain rfl := Option.some.inj hv; exact ⟨⟨ha, Or.inl hka⟩, trivial⟩
    | 1, he, hv => obtain rfl := Option.some.inj he; obtain rfl := Option.some.inj hv; exact ⟨⟨bs, ds⟩, trivial⟩
    | 2, he, hv => obtain rfl := Option.some.inj he; obtain rfl := Option.some.inj hv; exact ⟨⟨bm, dm⟩, trivial⟩
    | k + 3, he, hv => simp [aPe, ag_BOputS10] at he
  · refine ⟨fun q h => (by cases h), fun q h => (by cases h), fun q h => (by cases h), (aAllc ⟨_, rfl, (fF_b (r := 2737) (by decide) rfl).mpr ?_⟩ (aAllc ⟨_, rfl, (fF_b (r := 2465) (by decide) rfl).mpr ?_⟩ (fun f h => by cases h)))⟩
    · refine ⟨by decide, _, _, rfl, p5, fun j hj => ?_⟩
      rw [show 171 - 160 = 11 from rfl, fFst_10 j hj]
      unfold upd
      rw [hq]
      split
      · omega
      · exact l0 j hj
    · exact ⟨_, _, rfl, p5, p6⟩
theorem ae_BOputS11 {l : Launch} {E : jE} {K : Nat → Nat} {n : Nat} : aMe (fF K n) l E jcl jtb lw_tbl fa_T K n (fJX K n) ag_BOputS11 := by
  intro p σ ρ hH hX hA hM
  have hG := aAG_of hA.1 (fun i e v he hv => (hA.2 i e v he hv).1)
  clear hA
  obtain ⟨v0, v1, v2, rfl, g0, g1, g2⟩ := fA_3 hG
  clear hG
  obtain ⟨a, rfl, ha, hka⟩ := fG_ref (by decide) g0
  obtain ⟨s, rfl, bs, ds⟩ := aG_int g1
  obtain ⟨m, rfl, bm, dm⟩ := aG_int g2
  dsimp only at bs ds bm dm
  obtain ⟨-, -, -, m4⟩ := hM
  have f0 : fB K n p 171 [fR a] σ := by
    obtain ⟨w, e6, e7⟩ := m4 (2737, [0]) (List.mem_of_getElem? (i := 0) rfl)
    obtain rfl : [fR a] = w := Option.some.inj (show some [fR a] = some w from e6)
    exact (fF_b (r := 2737) (by decide) rfl).mp e7
  have f1 : fB K n p 154 [fR a] σ := by
    obtain ⟨w, e6, e7⟩ := m4 (2465, [0]) (List.mem_of_getElem? (i := 1) rfl)
    obtain rfl : [fR a] = w := Option.some.inj (show some [fR a] = some w from e6)
    exact (fF_b (r := 2465) (by decide) rfl).mp e7
  clear m4
  obtain ⟨-, b, g, e, w, l0⟩ := f0
  cases e
  obtain ⟨b, g9, e, w9, u⟩ := f1
  cases e
  obtain rfl := fMe_u w9 w
  have hq : s.toInt.toNat = 58 := by omega
  refine jMet_post (fPutX hH hX ha hka ⟨by omega, by omega⟩ ⟨by omega, by omega⟩ w u (by rw [hq]; exact (l0 58 (by decide)).trans rfl)) (fun r σ' n' hp => ?_)
  obtain ⟨rfl, p1, p2, p3, p4, rfl, p5, p6⟩ := hp
  refine ⟨rfl, p1, p2, p3, p4 _, rfl, [], ?_, ?_, [], List.mem_cons_self, fun f h => (by cases h)⟩
  · refine ⟨rfl, fun i e v he hv => ?_⟩
    match i, he, hv with
    | 0, he, hv => obtain rfl := Option.some.inj he; obtain rfl := Option.some.inj hv; exact ⟨⟨ha, Or.inl hka⟩, trivial⟩
    | 1, he, hv => obtain rfl := Option.some.inj he; obtain rfl := Option.some.inj hv; exact ⟨⟨bs, ds⟩, trivial⟩
    | 2, he, hv => obtain rfl := Option.some.inj he; obtain rfl := Option.some.inj hv; exact ⟨⟨bm, dm⟩, trivial⟩
    | k + 3, he, hv => simp [aPe, ag_BOputS11] at he
  · refine ⟨fun q h => (by cases h), fun q h => (by cases h), fun q h => (by cases h), (aAllc ⟨_, rfl, (fF_b (r := 2753) (by decide) rfl).mpr ?_⟩ (aAllc ⟨_, rfl, (fF_b (r := 2465) (by decide) rfl).mpr ?_⟩ (fun f h => by cases h)))⟩
    · refine ⟨by decide, _, _, rfl, p5, fun j hj => ?_⟩
      rw [show 172 - 160 = 12 from rfl, fFst_11 j hj]
      unfold upd
      rw [hq]
      split
      · omega
      · exact l0 j hj
    · exact ⟨_, _, rfl, p5, p6⟩
theorem ae_BOputS12 {l : Launch} {E : jE} {K : Nat → Nat} {n : Nat} : aMe (fF K n) l E jcl jtb lw_tbl fa_T K n (fJX K n) ag_BOputS12 := by
  intro p σ ρ hH hX hA hM
  have hG := aAG_of hA.1 (fun i e v he hv => (hA.2 i e v he hv).1)
  clear hA
  obtain ⟨v0, v1, v2, rfl, g0, g1, g2⟩ := fA_3 hG
  clear hG
  obtain ⟨a, rfl, ha, hka⟩ := fG_ref (by decide) g0
  obtain ⟨s, rfl, bs, ds⟩ := aG_int g1
  obtain ⟨m, rfl, bm, dm⟩ := aG_int g2
  dsimp only at bs ds bm dm
  obtain ⟨-, -, -, m4⟩ := hM
  have f0 : fB K n p 172 [fR a] σ := by
    obtain ⟨w, e6, e7⟩ := m4 (2753, [0]) (List.mem_of_getElem? (i := 0) rfl)
    obtain rfl : [fR a] = w := Option.some.inj (show some [fR a] = some w from e6)
    exact (fF_b (r := 2753) (by decide) rfl).mp e7
  have f1 : fB K n p 154 [fR a] σ := by
    obtain ⟨w, e6, e7⟩ := m4 (2465, [0]) (List.mem_of_getElem? (i := 1) rfl)
    obtain rfl : [fR a] = w := Option.some.inj (show some [fR a] = some w from e6)
    exact (fF_b (r := 2465) (by decide) rfl).mp e7
  clear m4
  obtain ⟨-, b, g, e, w, l0⟩ := f0
  cases e
  obtain ⟨b, g9, e, w9, u⟩ := f1
  cases e
  obtain rfl := fMe_u w9 w
  have hq : s.toInt.toNat = 3 := by omega
  refine jMet_post (fPutX hH hX ha hka ⟨by omega, by omega⟩ ⟨by omega, by omega⟩ w u (by rw [hq]; exact (l0 3 (by decide)).trans rfl)) (fun r σ' n' hp => ?_)
  obtain ⟨rfl, p1, p2, p3, p4, rfl, p5, p6⟩ := hp
  refine ⟨rfl, p1, p2, p3, p4 _, rfl, [], ?_, ?_, [], List.mem_cons_self, fun f h => (by cases h)⟩
  · refine ⟨rfl, fun i e v he hv => ?_⟩
    match i, he, hv with
    | 0, he, hv => obtain rfl := Option.some.inj he; obtain rfl := Option.some.inj hv; exact ⟨⟨ha, Or.inl hka⟩, trivial⟩
    | 1, he, hv => obtain rfl := Option.some.inj he; obtain rfl := Option.some.inj hv; exact ⟨⟨bs, ds⟩, trivial⟩
    | 2, he, hv => obtain rfl := Option.some.inj he; obtain rfl := Option.some.inj hv; exact ⟨⟨bm, dm⟩, trivial⟩
    | k + 3, he, hv => simp [aPe, ag_BOputS12] at he
  · refine ⟨fun q h => (by cases h), fun q h => (by cases h), fun q h => (by cases h), (aAllc ⟨_, rfl, (fF_b (r := 2769) (by decide) rfl).mpr ?_⟩ (aAllc ⟨_, rfl, (fF_b (r := 2465) (by decide) rfl).mpr ?_⟩ (fun f h => by cases h)))⟩
    · refine ⟨by decide, _, _, rfl, p5, fun j hj => ?_⟩
      rw [show 173 - 160 = 13 from rfl, fFst_12 j hj]
      unfold upd
      rw [hq]
      split
      · omega
      · exact l0 j hj
    · exact ⟨_, _, rfl, p5, p6⟩
theorem ae_BOputS13 {l : Launch} {E : jE} {K : Nat → Nat} {n : Nat} : aMe (fF K n) l E jcl jtb lw_tbl fa_T K n (fJX K n) ag_BOputS13 := by
  intro p σ ρ hH hX hA hM
  have hG := aAG_of hA.1 (fun i e v he hv => (hA.2 i e v he hv).1)
  clear hA
  obtain ⟨v0, v1, v2, rfl, g0, g1, g2⟩ := fA_3 hG
  clear hG
  obtain ⟨a, rfl, ha, hka⟩ := fG_ref (by decide) g0
  obtain ⟨s, rfl, bs, ds⟩ := aG_int g1
  obtain ⟨m, rfl, bm, dm⟩ := aG_int g2
  dsimp only at bs ds bm dm
  obtain ⟨-, -, -, m4⟩ := hM
  have f0 : fB K n p 173 [fR a] σ := by
    obtain ⟨w, e6, e7⟩ := m4 (2769, [0]) (List.mem_of_getElem? (i := 0) rfl)
    obtain rfl : [fR a] = w := Option.some.inj (show some [fR a] = some w from e6)
    exact (fF_b (r := 2769) (by decide) rfl).mp e7
  have f1 : fB K n p 154 [fR a] σ := by
    obtain ⟨w, e6, e7⟩ := m4 (2465, [0]) (List.mem_of_getElem? (i := 1) rfl)
    obtain rfl : [fR a] = w := Option.some.inj (show some [fR a] = some w from e6)
    exact (fF_b (r := 2465) (by decide) rfl).mp e7
  clear m4
  obtain ⟨-, b, g, e, w, l0⟩ := f0
  cases e
  obtain ⟨b, g9, e, w9, u⟩ := f1
  cases e
  obtain rfl := fMe_u w9 w
  have hq : s.toInt.toNat = 11 := by omega
  refine jMet_post (fPutX hH hX ha hka ⟨by omega, by omega⟩ ⟨by omega, by omega⟩ w u (by rw [hq]; exact (l0 11 (by decide)).trans rfl)) (fun r σ' n' hp => ?_)
  obtain ⟨rfl, p1, p2, p3, p4, rfl, p5, p6⟩ := hp
  refine ⟨rfl, p1, p2, p3, p4 _, rfl, [], ?_, ?_, [], List.mem_cons_self, fun f h => (by cases h)⟩
  · refine ⟨rfl, fun i e v he hv => ?_⟩
    match i, he, hv with
    | 0, he, hv => obtain rfl := Option.some.inj he; obtain rfl := Option.some.inj hv; exact ⟨⟨ha, Or.inl hka⟩, trivial⟩
    | 1, he, hv => obtain rfl := Option.some.inj he; obtain rfl := Option.some.inj hv; exact ⟨⟨bs, ds⟩, trivial⟩
    | 2, he, hv => obtain rfl := Option.some.inj he; obtain rfl := Option.some.inj hv; exact ⟨⟨bm, dm⟩, trivial⟩
    | k + 3, he, hv => simp [aPe, ag_BOputS13] at he
  · refine ⟨fun q h => (by cases h), fun q h => (by cases h), fun q h => (by cases h), (aAllc ⟨_, rfl, (fF_b (r := 2785) (by decide) rfl).mpr ?_⟩ (aAllc ⟨_, rfl, (fF_b (r := 2465) (by decide) rfl).mpr ?_⟩ (fun f h => by cases h)))⟩
    · refine ⟨by decide, _, _, rfl, p5, fun j hj => ?_⟩
      rw [show 174 - 160 = 14 from rfl, fFst_13 j hj]
      unfold upd
      rw [hq]
      split
      · omega
      · exact l0 j hj
    · exact ⟨_, _, rfl, p5, p6⟩
theorem ae_BOputS14 {l : Launch} {E : jE} {K : Nat → Nat} {n : Nat} : aMe (fF K n) l E jcl jtb lw_tbl fa_T K n (fJX K n) ag_BOputS14 := by
  intro p σ ρ hH hX hA hM
  have hG := aAG_of hA.1 (fun i e v he hv => (hA.2 i e v he hv).1)
  clear hA
  obtain ⟨v0, v1, v2, rfl, g0, g1, g2⟩ := fA_3 hG
  clear hG
  obtain ⟨a, rfl, ha, hka⟩ := fG_ref (by decide) g0
  obtain ⟨s, rfl, bs, ds⟩ := aG_int g1
  obtain ⟨m, rfl, bm, dm⟩ := aG_int g2
  dsimp only at bs ds bm dm
  obtain ⟨-, -, -, m4⟩ := hM
  have f0 : fB K n p 174 [fR a] σ := by
    obtain ⟨w, e6, e7⟩ := m4 (2785, [0]) (List.mem_of_getElem? (i := 0) rfl)
    obtain rfl : [fR a] = w := Option.some.inj (show some [fR a] = some w from e6)
    exact (fF_b (r := 2785) (by decide) rfl).mp e7
  have f1 : fB K n p 154 [fR a] σ := by
    obtain ⟨w, e6, e7⟩ := m4 (2465, [0]) (List.mem_of_getElem? (i := 1) rfl)
    obtain rfl : [fR a] = w := Option.some.inj (show some [fR a] = some w from e6)
    exact (fF_b (r := 2465) (by decide) rfl).mp e7
  clear m4
  obtain ⟨-, b, g, e, w, l0⟩ := f0
  cases e
  obtain ⟨b, g9, e, w9, u⟩ := f1
  cases e
  obtain rfl := fMe_u w9 w
  have hq : s.toInt.toNat = 51 := by omega
  refine jMet_post (fPutX hH hX ha hka ⟨by omega, by omega⟩ ⟨by omega, by omega⟩ w u (by rw [hq]; exact (l0 51 (by decide)).trans rfl)) (fun r σ' n' hp => ?_)
  obtain ⟨rfl, p1, p2, p3, p4, rfl, p5, p6⟩ := hp
  refine ⟨rfl, p1, p2, p3, p4 _, rfl, [], ?_, ?_, [], List.mem_cons_self, fun f h => (by cases h)⟩
  · refine ⟨rfl, fun i e v he hv => ?_⟩
    match i, he, hv with
    | 0, he, hv => obtain rfl := Option.some.inj he; obtain rfl := Option.some.inj hv; exact ⟨⟨ha, Or.inl hka⟩, trivial⟩
    | 1, he, hv => obtain rfl := Option.some.inj he; obtain rfl := Option.some.inj hv; exact ⟨⟨bs, ds⟩, trivial⟩
    | 2, he, hv => obtain rfl := Option.some.inj he; obtain rfl := Option.some.inj hv; exact ⟨⟨bm, dm⟩, trivial⟩
    | k + 3, he, hv => simp [aPe, ag_BOputS14] at he
  · refine ⟨fun q h => (by cases h), fun q h => (by cases h), fun q h => (by cases h), (aAllc ⟨_, rfl, (fF_b (r := 2801) (by decide) rfl).mpr ?_⟩ (aAllc ⟨_, rfl, (fF_b (r := 2465) (by decide) rfl).mpr ?_⟩ (fun f h => by cases h)))⟩
    · refine ⟨by decide, _, _, rfl, p5, fun j hj => ?_⟩
      rw [show 175 - 160 = 15 from rfl, fFst_14 j hj]
      unfold upd
      rw [hq]
      split
      · omega
      · exact l0 j hj
    · exact ⟨_, _, rfl, p5, p6⟩
theorem ae_BOputS15 {l : Launch} {E : jE} {K : Nat → Nat} {n : Nat} : aMe (fF K n) l E jcl jtb lw_tbl fa_T K n (fJX K n) ag_BOputS15 := by
  intro p σ ρ hH hX hA hM
  have hG := aAG_of hA.1 (fun i e v he hv => (hA.2 i e v he hv).1)
  clear hA
  obtain ⟨v0, v1, v2, rfl, g0, g1, g2⟩ := fA_3 hG
  clear hG
  obtain ⟨a, rfl, ha, hka⟩ := fG_ref (by decide) g0
  obtain ⟨s, rfl, bs, ds⟩ := aG_int g1
  obtain ⟨m, rfl, bm, dm⟩ := aG_int g2
  dsimp only at bs ds bm dm
  obtain ⟨-, -, -, m4⟩ := hM
  have f0 : fB K n p 175 [fR a] σ := by
    obtain ⟨w, e6, e7⟩ := m4 (2801, [0]) (List.mem_of_getElem? (i := 0) rfl)
    obtain rfl : [fR a] = w := Option.some.inj (show some [fR a] = some w from e6)
    exact (fF_b (r := 2801) (by decide) rfl).mp e7
  have f1 : fB K n p 154 [fR a] σ := by
    obtain ⟨w, e6, e7⟩ := m4 (2465, [0]) (List.mem_of_getElem? (i := 1) rfl)
    obtain rfl : [fR a] = w := Option.some.inj (show some [fR a] = some w from e6)
    exact (fF_b (r := 2465) (by decide) rfl).mp e7
  clear m4
  obtain ⟨-, b, g, e, w, l0⟩ := f0
  cases e
  obtain ⟨b, g9, e, w9, u⟩ := f1
  cases e
  obtain rfl := fMe_u w9 w
  have hq : s.toInt.toNat = 59 := by omega
  refine jMet_post (fPutX hH hX ha hka ⟨by omega, by omega⟩ ⟨by omega, by omega⟩ w u (by rw [hq]; exact (l0 59 (by decide)).trans rfl)) (fun r σ' n' hp => ?_)
  obtain ⟨rfl, p1, p2, p3, p4, rfl, p5, p6⟩ := hp
  refine ⟨rfl, p1, p2, p3, p4 _, rfl, [], ?_, ?_, [], List.mem_cons_self, fun f h => (by cases h)⟩
  · refine ⟨rfl, fun i e v he hv => ?_⟩
    match i, he, hv with
    | 0, he, hv => obtain rfl := Option.some.inj he; obtain rfl := Option.some.inj hv; exact ⟨⟨ha, Or.inl hka⟩, trivial⟩
    | 1, he, hv => obtain rfl := Option.some.inj he; obtain rfl := Option.some.inj hv; exact ⟨⟨bs, ds⟩, trivial⟩
    | 2, he, hv => obtain rfl := Option.some.inj he; obtain rfl := Option.some.inj hv; exact ⟨⟨bm, dm⟩, trivial⟩
    | k + 3, he, hv => simp [aPe, ag_BOputS15] at he
  · refine ⟨fun q h => (by cases h), fun q h => (by cases h), fun q h => (by cases h), (aAllc ⟨_, rfl, (fF_b (r := 2817) (by decide) rfl).mpr ?_⟩ (aAllc ⟨_, rfl, (fF_b (r := 2465) (by decide) rfl).mpr ?_⟩ (fun f h => by cases h)))⟩
    · refine ⟨by decide, _, _, rfl, p5, fun j hj => ?_⟩
      rw [show 176 - 160 = 16 from rfl, fFst_15 j hj]
      unfold upd
      rw [hq]
      split
      · omega
      · exact l0 j hj
    · exact ⟨_, _, rfl, p5, p6⟩
theorem ae_BOputS16 {l : Launch} {E : jE} {K : Nat → Nat} {n : Nat} : aMe (fF K n) l E jcl jtb lw_tbl fa_T K n (fJX K n) ag_BOputS16 := by
  intro p σ ρ hH hX hA hM
  have hG := aAG_of hA.1 (fun i e v he hv => (hA.2 i e v he hv).1)
  clear hA
  obtain ⟨v0, v1, v2, rfl, g0, g1, g2⟩ := fA_3 hG
  clear hG
  obtain ⟨a, rfl, ha, hka⟩ := fG_ref (by decide) g0
  obtain ⟨s, rfl, bs, ds⟩ := aG_int g1
  obtain ⟨m, rfl, bm, dm⟩ := aG_int g2
  dsimp only at bs ds bm dm
  obtain ⟨-, -, -, m4⟩ := hM
  have f0 : fB K n p 176 [fR a] σ := by
    obtain ⟨w, e6, e7⟩ := m4 (2817, [0]) (List.mem_of_getElem? (i := 0) rfl)
    obtain rfl : [fR a] = w := Option.some.inj (show some [fR a] = some w from e6)
    exact (fF_b (r := 2817) (by decide) rfl).mp e7
  have f1 : fB K n p 154 [fR a] σ := by
    obtain ⟨w, e6, e7⟩ := m4 (2465, [0]) (List.mem_of_getElem? (i := 1) rfl)
    obtain rfl : [fR a] = w := Option.some.inj (show some [fR a] = some w from e6)
    exact (fF_b (r := 2465) (by decide) rfl).mp e7
  clear m4
  obtain ⟨-, b, g, e, w, l0⟩ := f0
  cases e
  obtain ⟨b, g9, e, w9, u⟩ := f1
  cases e
  obtain rfl := fMe_u w9 w
  have hq : s.toInt.toNat = 4 := by omega
  refine jMet_post (fPutX hH hX ha hka ⟨by omega, by omega⟩ ⟨by omega, by omega⟩ w u (by rw [hq]; exact (l0 4 (by decide)).trans rfl)) (fun r σ' n' hp => ?_)
  obtain ⟨rfl, p1, p2, p3, p4, rfl, p5, p6⟩ := hp
  refine ⟨rfl, p1, p2, p3, p4 _, rfl, [], ?_, ?_, [], List.mem_cons_self, fun f h => (by cases h)⟩
  · refine ⟨rfl, fun i e v he hv => ?_⟩
    match i, he, hv with
    | 0, he, hv => obtain rfl := Option.some.inj he; obtain rfl := Option.some.inj hv; exact ⟨⟨ha, Or.inl hka⟩, trivial⟩
    | 1, he, hv => obtain rfl := Option.some.inj he; obtain rfl := Option.some.inj hv; exact ⟨⟨bs, ds⟩, trivial⟩
    | 2, he, hv => obtain rfl := Option.some.inj he; obtain rfl := Option.some.inj hv; exact ⟨⟨bm, dm⟩, trivial⟩
    | k + 3, he, hv => simp [aPe, ag_BOputS16] at he
  · refine ⟨fun q h => (by cases h), fun q h => (by cases h), fun q h => (by cases h), (aAllc ⟨_, rfl, (fF_b (r := 2833) (by decide) rfl).mpr ?_⟩ (aAllc ⟨_, rfl, (fF_b (r := 2465) (by decide) rfl).mpr ?_⟩ (fun f h => by cases h)))⟩
    · refine ⟨by decide, _, _, rfl, p5, fun j hj => ?_⟩
      rw [show 177 - 160 = 17 from rfl, fFst_16 j hj]
      unfold upd
      rw [hq]
      split
      · omega
      · exact l0 j hj
    · exact ⟨_, _, rfl, p5, p6⟩
theorem ae_BOputS17 {l : Launch} {E : jE} {K : Nat → Nat} {n : Nat} : aMe (fF K n) l E jcl jtb lw_tbl fa_T K n (fJX K n) ag_BOputS17 := by
  intro p σ ρ hH hX hA hM
  have hG := aAG_of hA.1 (fun i e v he hv => (hA.2 i e v he hv).1)
  clear hA
  obtain ⟨v0, v1, v2, rfl, g0, g1, g2⟩ := fA_3 hG
  clear hG
  obtain ⟨a, rfl, ha, hka⟩ := fG_ref (by decide) g0
  obtain ⟨s, rfl, bs, ds⟩ := aG_int g1
  obtain ⟨m, rfl, bm, dm⟩ := aG_int g2
  dsimp only at bs ds bm dm
  obtain ⟨-, -, -, m4⟩ := hM
  have f0 : fB K n p 177 [fR a] σ := by
    obtain ⟨w, e6, e7⟩ := m4 (2833, [0]) (List.mem_of_getElem? (i := 0) rfl)
    obtain rfl : [fR a] = w := Option.some.inj (show some [fR a] = some w from e6)
    exact (fF_b (r := 2833) (by decide) rfl).mp e7
  have f1 : fB K n p 154 [fR a] σ := by
    obtain ⟨w, e6, e7⟩ := m4 (2465, [0]) (List.mem_of_getElem? (i := 1) rfl)
    obtain rfl : [fR a] = w := Option.some.inj (show some [fR a] = some w from e6)
    exact (fF_b (r := 2465) (by decide) rfl).mp e7
  clear m4
  obtain ⟨-, b, g, e, w, l0⟩ := f0
  cases e
  obtain ⟨b, g9, e, w9, u⟩ := f1
  cases e
  obtain rfl := fMe_u w9 w
  have hq : s.toInt.toNat = 12 := by omega
  refine jMet_post (fPutX hH hX ha hka ⟨by omega, by omega⟩ ⟨by omega, by omega⟩ w u (by rw [hq]; exact (l0 12 (by decide)).trans rfl)) (fun r σ' n' hp => ?_)
  obtain ⟨rfl, p1, p2, p3, p4, rfl, p5, p6⟩ := hp
  refine ⟨rfl, p1, p2, p3, p4 _, rfl, [], ?_, ?_, [], List.mem_cons_self, fun f h => (by cases h)⟩
  · refine ⟨rfl, fun i e v he hv => ?_⟩
    match i, he, hv with
    | 0, he, hv => obtain rfl := Option.some.inj he; obtain rfl := Option.some.inj hv; exact ⟨⟨ha, Or.inl hka⟩, trivial⟩
    | 1, he, hv => obtain rfl := Option.some.inj he; obtain rfl := Option.some.inj hv; exact ⟨⟨bs, ds⟩, trivial⟩
    | 2, he, hv => obtain rfl := Option.some.inj he; obtain rfl := Option.some.inj hv; exact ⟨⟨bm, dm⟩, trivial⟩
    | k + 3, he, hv => simp [aPe, ag_BOputS17] at he
  · refine ⟨fun q h => (by cases h), fun q h => (by cases h), fun q h => (by cases h), (aAllc ⟨_, rfl, (fF_b (r := 2849) (by decide) rfl).mpr ?_⟩ (aAllc ⟨_, rfl, (fF_b (r := 2465) (by decide) rfl).mpr ?_⟩ (fun f h => by cases h)))⟩
    · refine ⟨by decide, _, _, rfl, p5, fun j hj => ?_⟩
      rw [show 178 - 160 = 18 from rfl, fFst_17 j hj]
      unfold upd
      rw [hq]
      split
      · omega
      · exact l0 j hj
    · exact ⟨_, _, rfl, p5, p6⟩
theorem ae_BOputS18 {l : Launch} {E : jE} {K : Nat → Nat} {n : Nat} : aMe (fF K n) l E jcl jtb lw_tbl fa_T K n (fJX K n) ag_BOputS18 := by
  intro p σ ρ hH hX hA hM
  have hG := aAG_of hA.1 (fun i e v he hv => (hA.2 i e v he hv).1)
  clear hA
  obtain ⟨v0, v1, v2, rfl, g0, g1, g2⟩ := fA_3 hG
  clear hG
  obtain ⟨a, rfl, ha, hka⟩ := fG_ref (by decide) g0
  obtain ⟨s, rfl, bs, ds⟩ := aG_int g1
  obtain ⟨m, rfl, bm, dm⟩ := aG_int g2
  dsimp only at bs ds bm dm
  obtain ⟨-, -, -, m4⟩ := hM
  have f0 : fB K n p 178 [fR a] σ := by
    obtain ⟨w, e6, e7⟩ := m4 (2849, [0]) (List.mem_of_getElem? (i := 0) rfl)
    obtain rfl : [fR a] = w := Option.some.inj (show some [fR a] = some w from e6)
    exact (fF_b (r := 2849) (by decide) rfl).mp e7
  have f1 : fB K n p 154 [fR a] σ := by
    obtain ⟨w, e6, e7⟩ := m4 (2465, [0]) (List.mem_of_getElem? (i := 1) rfl)
    obtain rfl : [fR a] = w := Option.some.inj (show some [fR a] = some w from e6)
    exact (fF_b (r := 2465) (by decide) rfl).mp e7
  clear m4
  obtain ⟨-, b, g, e, w, l0⟩ := f0
  cases e
  obtain ⟨b, g9, e, w9, u⟩ := f1
  cases e
  obtain rfl := fMe_u w9 w
  have hq : s.toInt.toNat = 52 := by omega
  refine jMet_post (fPutX hH hX ha hka ⟨by omega, by omega⟩ ⟨by omega, by omega⟩ w u (by rw [hq]; exact (l0 52 (by decide)).trans rfl)) (fun r σ' n' hp => ?_)
  obtain ⟨rfl, p1, p2, p3, p4, rfl, p5, p6⟩ := hp
  refine ⟨rfl, p1, p2, p3, p4 _, rfl, [], ?_, ?_, [], List.mem_cons_self, fun f h => (by cases h)⟩
  · refine ⟨rfl, fun i e v he hv => ?_⟩
    match i, he, hv with
    | 0, he, hv => obtain rfl := Option.some.inj he; obtain rfl := Option.some.inj hv; exact ⟨⟨ha, Or.inl hka⟩, trivial⟩
    | 1, he, hv => obtain rfl := Option.some.inj he; obtain rfl := Option.some.inj hv; exact ⟨⟨bs, ds⟩, trivial⟩
    | 2, he, hv => obtain rfl := Option.some.inj he; obtain rfl := Option.some.inj hv; exact ⟨⟨bm, dm⟩, trivial⟩
    | k + 3, he, hv => simp [aPe, ag_BOputS18] at he
  · refine ⟨fun q h => (by cases h), fun q h => (by cases h), fun q h => (by cases h), (aAllc ⟨_, rfl, (fF_b (r := 2865) (by decide) rfl).mpr ?_⟩ (aAllc ⟨_, rfl, (fF_b (r := 2465) (by decide) rfl).mpr ?_⟩ (fun f h => by cases h)))⟩
    · refine ⟨by decide, _, _, rfl, p5, fun j hj => ?_⟩
      rw [show 179 - 160 = 19 from rfl, fFst_18 j hj]
      unfold upd
      rw [hq]
      split
      · omega
      · exact l0 j hj
    · exact ⟨_, _, rfl, p5, p6⟩
theorem ae_BOputS19 {l : Launch} {E : jE} {K : Nat → Nat} {n : Nat} : aMe (fF K n) l E jcl jtb lw_tbl fa_T K n (fJX K n) ag_BOputS19 := by
  intro p σ ρ hH hX hA hM
  have hG := aAG_of hA.1 (fun i e v he hv => (hA.2 i e v he hv).1)
  clear hA
  obtain ⟨v0, v1, v2, rfl, g0, g1, g2⟩ := fA_3 hG
  clear hG
  obtain ⟨a, rfl, ha, hka⟩ := fG_ref (by decide) g0
  obtain ⟨s, rfl, bs, ds⟩ := aG_int g1
  obtain ⟨m, rfl, bm, dm⟩ := aG_int g2
  dsimp only at bs ds bm dm
  obtain ⟨-, -, -, m4⟩ := hM
  have f0 : fB K n p 179 [fR a] σ := by
    obtain ⟨w, e6, e7⟩ := m4 (2865, [0]) (List.mem_of_getElem? (i := 0) rfl)
    obtain rfl : [fR a] = w := Option.some.inj (show some [fR a] = some w from e6)
    exact (fF_b (r := 2865) (by decide) rfl).mp e7
  have f1 : fB K n p 154 [fR a] σ := by
    obtain ⟨w, e6, e7⟩ := m4 (2465, [0]) (List.mem_of_getElem? (i := 1) rfl)
    obtain rfl : [fR a] = w := Option.some.inj (show some [fR a] = some w from e6)
    exact (fF_b (r := 2465) (by decide) rfl).mp e7
  clear m4
  obtain ⟨-, b, g, e, w, l0⟩ := f0
  cases e
  obtain ⟨b, g9, e, w9, u⟩ := f1
  cases e
  obtain rfl := fMe_u w9 w
  have hq : s.toInt.toNat = 60 := by omega
  refine jMet_post (fPutX hH hX ha hka ⟨by omega, by omega⟩ ⟨by omega, by omega⟩ w u (by rw [hq]; exact (l0 60 (by decide)).trans rfl)) (fun r σ' n' hp => ?_)
  obtain ⟨rfl, p1, p2, p3, p4, rfl, p5, p6⟩ := hp
  refine ⟨rfl, p1, p2, p3, p4 _, rfl, [], ?_, ?_, [], List.mem_cons_self, fun f h => (by cases h)⟩
  · refine ⟨rfl, fun i e v he hv => ?_⟩
    match i, he, hv with
    | 0, he, hv => obtain rfl := Option.some.inj he; obtain rfl := Option.some.inj hv; exact ⟨⟨ha, Or.inl hka⟩, trivial⟩
    | 1, he, hv => obtain rfl := Option.some.inj he; obtain rfl := Option.some.inj hv; exact ⟨⟨bs, ds⟩, trivial⟩
    | 2, he, hv => obtain rfl := Option.some.inj he; obtain rfl := Option.some.inj hv; exact ⟨⟨bm, dm⟩, trivial⟩
    | k + 3, he, hv => simp [aPe, ag_BOputS19] at he
  · refine ⟨fun q h => (by cases h), fun q h => (by cases h), fun q h => (by cases h), (aAllc ⟨_, rfl, (fF_b (r := 2881) (by decide) rfl).mpr ?_⟩ (aAllc ⟨_, rfl, (fF_b (r := 2465) (by decide) rfl).mpr ?_⟩ (fun f h => by cases h)))⟩
    · refine ⟨by decide, _, _, rfl, p5, fun j hj => ?_⟩
      rw [show 180 - 160 = 20 from rfl, fFst_19 j hj]
      unfold upd
      rw [hq]
      split
      · omega
      · exact l0 j hj
    · exact ⟨_, _, rfl, p5, p6⟩
theorem ae_BOputS20 {l : Launch} {E : jE} {K : Nat → Nat} {n : Nat} : aMe (fF K n) l E jcl jtb lw_tbl fa_T K n (fJX K n) ag_BOputS20 := by
  intro p σ ρ hH hX hA hM
  have hG := aAG_of hA.1 (fun i e v he hv => (hA.2 i e v he hv).1)
  clear hA
  obtain ⟨v0, v1, v2, rfl, g0, g1, g2⟩ := fA_3 hG
  clear hG
  obtain ⟨a, rfl, ha, hka⟩ := fG_ref (by decide) g0
  obtain ⟨s, rfl, bs, ds⟩ := aG_int g1
  obtain ⟨m, rfl, bm, dm⟩ := aG_int g2
  dsimp only at bs ds bm dm
  obtain ⟨-, -, -, m4⟩ := hM
  have f0 : fB K n p 180 [fR a] σ := by
    obtain ⟨w, e6, e7⟩ := m4 (2881, [0]) (List.mem_of_getElem? (i := 0) rfl)
    obtain rfl : [fR a] = w := Option.some.inj (show some [fR a] = some w from e6)
    exact (fF_b (r := 2881) (by decide) rfl).mp e7
  have f1 : fB K n p 154 [fR a] σ := by
    obtain ⟨w, e6, e7⟩ := m4 (2465, [0]) (List.mem_of_getElem? (i := 1) rfl)
    obtain rfl : [fR a] = w := Option.some.inj (show some [fR a] = some w from e6)
    exact (fF_b (r := 2465) (by decide) rfl).mp e7
  clear m4
  obtain ⟨-, b, g, e, w, l0⟩ := f0
  cases e
  obtain ⟨b, g9, e, w9, u⟩ := f1
  cases e
  obtain rfl := fMe_u w9 w
  have hq : s.toInt.toNat = 5 := by omega
  refine jMet_post (fPutX hH hX ha hka ⟨by omega, by omega⟩ ⟨by omega, by omega⟩ w u (by rw [hq]; exact (l0 5 (by decide)).trans rfl)) (fun r σ' n' hp => ?_)
  obtain ⟨rfl, p1, p2, p3, p4, rfl, p5, p6⟩ := hp
  refine ⟨rfl, p1, p2, p3, p4 _, rfl, [], ?_, ?_, [], List.mem_cons_self, fun f h => (by cases h)⟩
  · refine ⟨rfl, fun i e v he hv => ?_⟩
    match i, he, hv with
    | 0, he, hv => obtain rfl := Option.some.inj he; obtain rfl := Option.some.inj hv; exact ⟨⟨ha, Or.inl hka⟩, trivial⟩
    | 1, he, hv => obtain rfl := Option.some.inj he; obtain rfl := Option.some.inj hv; exact ⟨⟨bs, ds⟩, trivial⟩
    | 2, he, hv => obtain rfl := Option.some.inj he; obtain rfl := Option.some.inj hv; exact ⟨⟨bm, dm⟩, trivial⟩
    | k + 3, he, hv => simp [aPe, ag_BOputS20] at he
  · refine ⟨fun q h => (by cases h), fun q h => (by cases h), fun q h => (by cases h), (aAllc ⟨_, rfl, (fF_b (r := 2897) (by decide) rfl).mpr ?_⟩ (aAllc ⟨_, rfl, (fF_b (r := 2465) (by decide) rfl).mpr ?_⟩ (fun f h => by cases h)))⟩
    · refine ⟨by decide, _, _, rfl, p5, fun j hj => ?_⟩
      rw [show 181 - 160 = 21 from rfl, fFst_20 j hj]
      unfold upd
      rw [hq]
      split
      · omega
      · exact l0 j hj
    · exact ⟨_, _, rfl, p5, p6⟩
theorem ae_BOputS21 {l : Launch} {E : jE} {K : Nat → Nat} {n : Nat} : aMe (fF K n) l E jcl jtb lw_tbl fa_T K n (fJX K n) ag_BOputS21 := by
  intro p σ ρ hH hX hA hM
  have hG := aAG_of hA.1 (fun i e v he hv => (hA.2 i e v he hv).1)
  clear hA
  obtain ⟨v0, v1, v2, rfl, g0, g1, g2⟩ := fA_3 hG
  clear hG
  obtain ⟨a, rfl, ha, hka⟩ := fG_ref (by decide) g0
  obtain ⟨s, rfl, bs, ds⟩ := aG_int g1
  obtain ⟨m, rfl, bm, dm⟩ := aG_int g2
  dsimp only at bs ds bm dm
  obtain ⟨-, -, -, m4⟩ := hM
  have f0 : fB K n p 181 [fR a] σ := by
    obtain ⟨w, e6, e7⟩ := m4 (2897, [0]) (List.mem_of_getElem? (i := 0) rfl)
    obtain rfl : [fR a] = w := Option.some.inj (show some [fR a] = some w from e6)
    exact (fF_b (r := 2897) (by decide) rfl).mp e7
  have f1 : fB K n p 154 [fR a] σ := by
    obtain ⟨w, e6, e7⟩ := m4 (2465, [0]) (List.mem_of_getElem? (i := 1) rfl)
    obtain rfl : [fR a] = w := Option.some.inj (show some [fR a] = some w from e6)
    exact (fF_b (r := 2465) (by decide) rfl).mp e7
  clear m4
  obtain ⟨-, b, g, e, w, l0⟩ := f0
  cases e
  obtain ⟨b, g9, e, w9, u⟩ := f1
  cases e
  obtain rfl := fMe_u w9 w
  have hq : s.toInt.toNat = 13 := by omega
  refine jMet_post (fPutX hH hX ha hka ⟨by omega, by omega⟩ ⟨by omega, by omega⟩ w u (by rw [hq]; exact (l0 13 (by decide)).trans rfl)) (fun r σ' n' hp => ?_)
  obtain ⟨rfl, p1, p2, p3, p4, rfl, p5, p6⟩ := hp
  refine ⟨rfl, p1, p2, p3, p4 _, rfl, [], ?_, ?_, [], List.mem_cons_self, fun f h => (by cases h)⟩
  · refine ⟨rfl, fun i e v he hv => ?_⟩
    match i, he, hv with
    | 0, he, hv => obtain rfl := Option.some.inj he; obtain rfl := Option.some.inj hv; exact ⟨⟨ha, Or.inl hka⟩, trivial⟩
    | 1, he, hv => obtain rfl := Option.some.inj he; obtain rfl := Option.some.inj hv; exact ⟨⟨bs, ds⟩, trivial⟩
    | 2, he, hv => obtain rfl := Option.some.inj he; obtain rfl := Option.some.inj hv; exact ⟨⟨bm, dm⟩, trivial⟩
    | k + 3, he, hv => simp [aPe, ag_BOputS21] at he
  · refine ⟨fun q h => (by cases h), fun q h => (by cases h), fun q h => (by cases h), (aAllc ⟨_, rfl, (fF_b (r := 2913) (by decide) rfl).mpr ?_⟩ (aAllc ⟨_, rfl, (fF_b (r := 2465) (by decide) rfl).mpr ?_⟩ (fun f h => by cases h)))⟩
    · refine ⟨by decide, _, _, rfl, p5, fun j hj => ?_⟩
      rw [show 182 - 160 = 22 from rfl, fFst_21 j hj]
      unfold upd
      rw [hq]
      split
      · omega
      · exact l0 j hj
    · exact ⟨_, _, rfl, p5, p6⟩
theorem ae_BOputS22 {l : Launch} {E : jE} {K : Nat → Nat} {n : Nat} : aMe (fF K n) l E jcl jtb lw_tbl fa_T K n (fJX K n) ag_BOputS22 := by
  intro p σ ρ hH hX hA hM
  have hG := aAG_of hA.1 (fun i e v he hv => (hA.2 i e v he hv).1)
  clear hA
  obtain ⟨v0, v1, v2, rfl, g0, g1, g2⟩ := fA_3 hG
  clear hG
  obtain ⟨a, rfl, ha, hka⟩ := fG_ref (by decide) g0
  obtain ⟨s, rfl, bs, ds⟩ := aG_int g1
  obtain ⟨m, rfl, bm, dm⟩ := aG_int g2
  dsimp only at bs ds bm dm
  obtain ⟨-, -, -, m4⟩ := hM
  have f0 : fB K n p 182 [fR a] σ := by
    obtain ⟨w, e6, e7⟩ := m4 (2913, [0]) (List.mem_of_getElem? (i := 0) rfl)
    obtain rfl : [fR a] = w := Option.some.inj (show some [fR a] = some w from e6)
    exact (fF_b (r := 2913) (by decide) rfl).mp e7
  have f1 : fB K n p 154 [fR a] σ := by
    obtain ⟨w, e6, e7⟩ := m4 (2465, [0]) (List.mem_of_getElem? (i := 1) rfl)
    obtain rfl : [fR a] = w := Option.some.inj (show some [fR a] = some w from e6)
    exact (fF_b (r := 2465) (by decide) rfl).mp e7
  clear m4
  obtain ⟨-, b, g, e, w, l0⟩ := f0
  cases e
  obtain ⟨b, g9, e, w9, u⟩ := f1
  cases e
  obtain rfl := fMe_u w9 w
  have hq : s.toInt.toNat = 53 := by omega
  refine jMet_post (fPutX hH hX ha hka ⟨by omega, by omega⟩ ⟨by omega, by omega⟩ w u (by rw [hq]; exact (l0 53 (by decide)).trans rfl)) (fun r σ' n' hp => ?_)
  obtain ⟨rfl, p1, p2, p3, p4, rfl, p5, p6⟩ := hp
  refine ⟨rfl, p1, p2, p3, p4 _, rfl, [], ?_, ?_, [], List.mem_cons_self, fun f h => (by cases h)⟩
  · refine ⟨rfl, fun i e v he hv => ?_⟩
    match i, he, hv with
    | 0, he, hv => obtain rfl := Option.some.inj he; obtain rfl := Option.some.inj hv; exact ⟨⟨ha, Or.inl hka⟩, trivial⟩
    | 1, he, hv => obtain rfl := Option.some.inj he; obtain rfl := Option.some.inj hv; exact ⟨⟨bs, ds⟩, trivial⟩
    | 2, he, hv => obtain rfl := Option.some.inj he; obtain rfl := Option.some.inj hv; exact ⟨⟨bm, dm⟩, trivial⟩
    | k + 3, he, hv => simp [aPe, ag_BOputS22] at he
  · refine ⟨fun q h => (by cases h), fun q h => (by cases h), fun q h => (by cases h), (aAllc ⟨_, rfl, (fF_b (r := 2929) (by decide) rfl).mpr ?_⟩ (aAllc ⟨_, rfl, (fF_b (r := 2465) (by decide) rfl).mpr ?_⟩ (fun f h => by cases h)))⟩
    · refine ⟨by decide, _, _, rfl, p5, fun j hj => ?_⟩
      rw [show 183 - 160 = 23 from rfl, fFst_22 j hj]
      unfold upd
      rw [hq]
      split
      · omega
      · exact l0 j hj
    · exact ⟨_, _, rfl, p5, p6⟩
theorem ae_BOputS23 {l : Launch} {E : jE} {K : Nat → Nat} {n : Nat} : aMe (fF K n) l E jcl jtb lw_tbl fa_T K n (fJX K n) ag_BOputS23 := by
  intro p σ ρ hH hX hA hM
  have hG := aAG_of hA.1 (fun i e v he hv => (hA.2 i e v he hv).1)
  clear hA
  obtain ⟨v0, v1, v2, rfl, g0, g1, g2⟩ := fA_3 hG
  clear hG
  obtain ⟨a, rfl, ha, hka⟩ := fG_ref (by decide) g0
  obtain ⟨s, rfl, bs, ds⟩ := aG_int g1
  obtain ⟨m, rfl, bm, dm⟩ := aG_int g2
  dsimp only at bs ds bm dm
  obtain ⟨-, -, -, m4⟩ := hM
  have f0 : fB K n p 183 [fR a] σ := by
    obtain ⟨w, e6, e7⟩ := m4 (2929, [0]) (List.mem_of_getElem? (i := 0) rfl)
    obtain rfl : [fR a] = w := Option.some.inj (show some [fR a] = some w from e6)
    exact (fF_b (r := 2929) (by decide) rfl).mp e7
  have f1 : fB K n p 154 [fR a] σ := by
    obtain ⟨w, e6, e7⟩ := m4 (2465, [0]) (List.mem_of_getElem? (i := 1) rfl)
    obtain rfl : [fR a] = w := Option.some.inj (show some [fR a] = some w from e6)
    exact (fF_b (r := 2465) (by decide) rfl).mp e7
  clear m4
  obtain ⟨-, b, g, e, w, l0⟩ := f0
  cases e
  obtain ⟨b, g9, e, w9, u⟩ := f1
  cases e
  obtain rfl := fMe_u w9 w
  have hq : s.toInt.toNat = 61 := by omega
  refine jMet_post (fPutX hH hX ha hka ⟨by omega, by omega⟩ ⟨by omega, by omega⟩ w u (by rw [hq]; exact (l0 61 (by decide)).trans rfl)) (fun r σ' n' hp => ?_)
  obtain ⟨rfl, p1, p2, p3, p4, rfl, p5, p6⟩ := hp
  refine ⟨rfl, p1, p2, p3, p4 _, rfl, [], ?_, ?_, [], List.mem_cons_self, fun f h => (by cases h)⟩
  · refine ⟨rfl, fun i e v he hv => ?_⟩
    match i, he, hv with
    | 0, he, hv => obtain rfl := Option.some.inj he; obtain rfl := Option.some.inj hv; exact ⟨⟨ha, Or.inl hka⟩, trivial⟩
    | 1, he, hv => obtain rfl := Option.some.inj he; obtain rfl := Option.some.inj hv; exact ⟨⟨bs, ds⟩, trivial⟩
    | 2, he, hv => obtain rfl := Option.some.inj he; obtain rfl := Option.some.inj hv; exact ⟨⟨bm, dm⟩, trivial⟩
    | k + 3, he, hv => simp [aPe, ag_BOputS23] at he
  · refine ⟨fun q h => (by cases h), fun q h => (by cases h), fun q h => (by cases h), (aAllc ⟨_, rfl, (fF_b (r := 2945) (by decide) rfl).mpr ?_⟩ (aAllc ⟨_, rfl, (fF_b (r := 2465) (by decide) rfl).mpr ?_⟩ (fun f h => by cases h)))⟩
    · refine ⟨by decide, _, _, rfl, p5, fun j hj => ?_⟩
      rw [show 184 - 160 = 24 from rfl, fFst_23 j hj]
      unfold upd
      rw [hq]
      split
      · omega
      · exact l0 j hj
    · exact ⟨_, _, rfl, p5, p6⟩
theorem ae_BOputS24 {l : Launch} {E : jE} {K : Nat → Nat} {n : Nat} : aMe (fF K n) l E jcl jtb lw_tbl fa_T K n (fJX K n) ag_BOputS24 := by
  intro p σ ρ hH hX hA hM
  have hG := aAG_of hA.1 (fun i e v he hv => (hA.2 i e v he hv).1)
  clear hA
  obtain ⟨v0, v1, v2, rfl, g0, g1, g2⟩ := fA_3 hG
  clear hG
  obtain ⟨a, rfl, ha, hka⟩ := fG_ref (by decide) g0
  obtain ⟨s, rfl, bs, ds⟩ := aG_int g1
  obtain ⟨m, rfl, bm, dm⟩ := aG_int g2
  dsimp only at bs ds bm dm
  obtain ⟨-, -, -, m4⟩ := hM
  have f0 : fB K n p 184 [fR a] σ := by
    obtain ⟨w, e6, e7⟩ := m4 (2945, [0]) (List.mem_of_getElem? (i := 0) rfl)
    obtain rfl : [fR a] = w := Option.some.inj (show some [fR a] = some w from e6)
    exact (fF_b (r := 2945) (by decide) rfl).mp e7
  have f1 : fB K n p 154 [fR a] σ := by
    obtain ⟨w, e6, e7⟩ := m4 (2465, [0]) (List.mem_of_getElem? (i := 1) rfl)
    obtain rfl : [fR a] = w := Option.some.inj (show some [fR a] = some w from e6)
    exact (fF_b (r := 2465) (by decide) rfl).mp e7
  clear m4
  obtain ⟨-, b, g, e, w, l0⟩ := f0
  cases e
  obtain ⟨b, g9, e, w9, u⟩ := f1
  cases e
  obtain rfl := fMe_u w9 w
  have hq : s.toInt.toNat = 6 := by omega
  refine jMet_post (fPutX hH hX ha hka ⟨by omega, by omega⟩ ⟨by omega, by omega⟩ w u (by rw [hq]; exact (l0 6 (by decide)).trans rfl)) (fun r σ' n' hp => ?_)
  obtain ⟨rfl, p1, p2, p3, p4, rfl, p5, p6⟩ := hp
  refine ⟨rfl, p1, p2, p3, p4 _, rfl, [], ?_, ?_, [], List.mem_cons_self, fun f h => (by cases h)⟩
  · refine ⟨rfl, fun i e v he hv => ?_⟩
    match i, he, hv with
    | 0, he, hv => obtain rfl := Option.some.inj he; obtain rfl := Option.some.inj hv; exact ⟨⟨ha, Or.inl hka⟩, trivial⟩
    | 1, he, hv => obtain rfl := Option.some.inj he; obtain rfl := Option.some.inj hv; exact ⟨⟨bs, ds⟩, trivial⟩
    | 2, he, hv => obtain rfl := Option.some.inj he; obtain rfl := Option.some.inj hv; exact ⟨⟨bm, dm⟩, trivial⟩
    | k + 3, he, hv => simp [aPe, ag_BOputS24] at he
  · refine ⟨fun q h => (by cases h), fun q h => (by cases h), fun q h => (by cases h), (aAllc ⟨_, rfl, (fF_b (r := 2961) (by decide) rfl).mpr ?_⟩ (aAllc ⟨_, rfl, (fF_b (r := 2465) (by decide) rfl).mpr ?_⟩ (fun f h => by cases h)))⟩
    · refine ⟨by decide, _, _, rfl, p5, fun j hj => ?_⟩
      rw [show 185 - 160 = 25 from rfl, fFst_24 j hj]
      unfold upd
      rw [hq]
      split
      · omega
      · exact l0 j hj
    · exact ⟨_, _, rfl, p5, p6⟩
theorem ae_BOputS25 {l : Launch} {E : jE} {K : Nat → Nat} {n : Nat} : aMe (fF K n) l E jcl jtb lw_tbl fa_T K n (fJX K n) ag_BOputS25 := by
  intro p σ ρ hH hX hA hM
  have hG := aAG_of hA.1 (fun i e v he hv => (hA.2 i e v he hv).1)
  clear hA
  obtain ⟨v0, v1, v2, rfl, g0, g1, g2⟩ := fA_3 hG
  clear hG
  obtain ⟨a, rfl, ha, hka⟩ := fG_ref (by decide) g0
  obtain ⟨s, rfl, bs, ds⟩ := aG_int g1
  obtain ⟨m, rfl, bm, dm⟩ := aG_int g2
  dsimp only at bs ds bm dm
  obtain ⟨-, -, -, m4⟩ := hM
  have f0 : fB K n p 185 [fR a] σ := by
    obtain ⟨w, e6, e7⟩ := m4 (2961, [0]) (List.mem_of_getElem? (i := 0) rfl)
    obtain rfl : [fR a] = w := Option.some.inj (show some [fR a] = some w from e6)
    exact (fF_b (r := 2961) (by decide) rfl).mp e7
  have f1 : fB K n p 154 [fR a] σ := by
    obtain ⟨w, e6, e7⟩ := m4 (2465, [0]) (List.mem_of_getElem? (i := 1) rfl)
    obtain rfl : [fR a] = w := Option.some.inj (show some [fR a] = some w from e6)
    exact (fF_b (r := 2465) (by decide) rfl).mp e7
  clear m4
  obtain ⟨-, b, g, e, w, l0⟩ := f0
  cases e
  obtain ⟨b, g9, e, w9, u⟩ := f1
  cases e
  obtain rfl := fMe_u w9 w
  have hq : s.toInt.toNat = 14 := by omega
  refine jMet_post (fPutX hH hX ha hka ⟨by omega, by omega⟩ ⟨by omega, by omega⟩ w u (by rw [hq]; exact (l0 14 (by decide)).trans rfl)) (fun r σ' n' hp => ?_)
  obtain ⟨rfl, p1, p2, p3, p4, rfl, p5, p6⟩ := hp
  refine ⟨rfl, p1, p2, p3, p4 _, rfl, [], ?_, ?_, [], List.mem_cons_self, fun f h => (by cases h)⟩
  · refine ⟨rfl, fun i e v he hv => ?_⟩
    match i, he, hv with
    | 0, he, hv => obtain rfl := Option.some.inj he; obtain rfl := Option.some.inj hv; exact ⟨⟨ha, Or.inl hka⟩, trivial⟩
    | 1, he, hv => obtain rfl := Option.some.inj he; obtain rfl := Option.some.inj hv; exact ⟨⟨bs, ds⟩, trivial⟩
    | 2, he, hv => obtain rfl := Option.some.inj he; obtain rfl := Option.some.inj hv; exact ⟨⟨bm, dm⟩, trivial⟩
    | k + 3, he, hv => simp [aPe, ag_BOputS25] at he
  · refine ⟨fun q h => (by cases h), fun q h => (by cases h), fun q h => (by cases h), (aAllc ⟨_, rfl, (fF_b (r := 2977) (by decide) rfl).mpr ?_⟩ (aAllc ⟨_, rfl, (fF_b (r := 2465) (by decide) rfl).mpr ?_⟩ (fun f h => by cases h)))⟩
    · refine ⟨by decide, _, _, rfl, p5, fun j hj => ?_⟩
      rw [show 186 - 160 = 26 from rfl, fFst_25 j hj]
      unfold upd
      rw [hq]
      split
      · omega
      · exact l0 j hj
    · exact ⟨_, _, rfl, p5, p6⟩
theorem ae_BOputS26 {l : Launch} {E : jE} {K : Nat → Nat} {n : Nat} : aMe (fF K n) l E jcl jtb lw_tbl fa_T K n (fJX K n) ag_BOputS26 := by
  intro p σ ρ hH hX hA hM
  have hG := aAG_of hA.1 (fun i e v he hv => (hA.2 i e v he hv).1)
  clear hA
  obtain ⟨v0, v1, v2, rfl, g0, g1, g2⟩ := fA_3 hG
  clear hG
  obtain ⟨a, rfl, ha, hka⟩ := fG_ref (by decide) g0
  obtain ⟨s, rfl, bs, ds⟩ := aG_int g1
  obtain ⟨m, rfl, bm, dm⟩ := aG_int g2
  dsimp only at bs ds bm dm
  obtain ⟨-, -, -, m4⟩ := hM
  have f0 : fB K n p 186 [fR a] σ := by
    obtain ⟨w, e6, e7⟩ := m4 (2977, [0]) (List.mem_of_getElem? (i := 0) rfl)
    obtain rfl : [fR a] = w := Option.some.inj (show some [fR a] = some w from e6)
    exact (fF_b (r := 2977) (by decide) rfl).mp e7
  have f1 : fB K n p 154 [fR a] σ := by
    obtain ⟨w, e6, e7⟩ := m4 (2465, [0]) (List.mem_of_getElem? (i := 1) rfl)
    obtain rfl : [fR a] = w := Option.some.inj (show some [fR a] = some w from e6)
    exact (fF_b (r := 2465) (by decide) rfl).mp e7
  clear m4
  obtain ⟨-, b, g, e, w, l0⟩ := f0
  cases e
  obtain ⟨b, g9, e, w9, u⟩ := f1
  cases e
  obtain rfl := fMe_u w9 w
  have hq : s.toInt.toNat = 54 := by omega
  refine jMet_post (fPutX hH hX ha hka ⟨by omega, by omega⟩ ⟨by omega, by omega⟩ w u (by rw [hq]; exact (l0 54 (by decide)).trans rfl)) (fun r σ' n' hp => ?_)
  obtain ⟨rfl, p1, p2, p3, p4, rfl, p5, p6⟩ := hp
  refine ⟨rfl, p1, p2, p3, p4 _, rfl, [], ?_, ?_, [], List.mem_cons_self, fun f h => (by cases h)⟩
  · refine ⟨rfl, fun i e v he hv => ?_⟩
    match i, he, hv with
    | 0, he, hv => obtain rfl := Option.some.inj he; obtain rfl := Option.some.inj hv; exact ⟨⟨ha, Or.inl hka⟩, trivial⟩
    | 1, he, hv => obtain rfl := Option.some.inj he; obtain rfl := Option.some.inj hv; exact ⟨⟨bs, ds⟩, trivial⟩
    | 2, he, hv => obtain rfl := Option.some.inj he; obtain rfl := Option.some.inj hv; exact ⟨⟨bm, dm⟩, trivial⟩
    | k + 3, he, hv => simp [aPe, ag_BOputS26] at he
  · refine ⟨fun q h => (by cases h), fun q h => (by cases h), fun q h => (by cases h), (aAllc ⟨_, rfl, (fF_b (r := 2993) (by decide) rfl).mpr ?_⟩ (aAllc ⟨_, rfl, (fF_b (r := 2465) (by decide) rfl).mpr ?_⟩ (fun f h => by cases h)))⟩
    · refine ⟨by decide, _, _, rfl, p5, fun j hj => ?_⟩
      rw [show 187 - 160 = 27 from rfl, fFst_26 j hj]
      unfold upd
      rw [hq]
      split
      · omega
      · exact l0 j hj
    · exact ⟨_, _, rfl, p5, p6⟩
theorem ae_BOputS27 {l : Launch} {E : jE} {K : Nat → Nat} {n : Nat} : aMe (fF K n) l E jcl jtb lw_tbl fa_T K n (fJX K n) ag_BOputS27 := by
  intro p σ ρ hH hX hA hM
  have hG := aAG_of hA.1 (fun i e v he hv => (hA.2 i e v he hv).1)
  clear hA
  obtain ⟨v0, v1, v2, rfl, g0, g1, g2⟩ := fA_3 hG
  clear hG
  obtain ⟨a, rfl, ha, hka⟩ := fG_ref (by decide) g0
  obtain ⟨s, rfl, bs, ds⟩ := aG_int g1
  obtain ⟨m, rfl, bm, dm⟩ := aG_int g2
  dsimp only at bs ds bm dm
  obtain ⟨-, -, -, m4⟩ := hM
  have f0 : fB K n p 187 [fR a] σ := by
    obtain ⟨w, e6, e7⟩ := m4 (2993, [0]) (List.mem_of_getElem? (i := 0) rfl)
    obtain rfl : [fR a] = w := Option.some.inj (show some [fR a] = some w from e6)
    exact (fF_b (r := 2993) (by decide) rfl).mp e7
  have f1 : fB K n p 154 [fR a] σ := by
    obtain ⟨w, e6, e7⟩ := m4 (2465, [0]) (List.mem_of_getElem? (i := 1) rfl)
    obtain rfl : [fR a] = w := Option.some.inj (show some [fR a] = some w from e6)
    exact (fF_b (r := 2465) (by decide) rfl).mp e7
  clear m4
  obtain ⟨-, b, g, e, w, l0⟩ := f0
  cases e
  obtain ⟨b, g9, e, w9, u⟩ := f1
  cases e
  obtain rfl := fMe_u w9 w
  have hq : s.toInt.toNat = 62 := by omega
  refine jMet_post (fPutX hH hX ha hka ⟨by omega, by omega⟩ ⟨by omega, by omega⟩ w u (by rw [hq]; exact (l0 62 (by decide)).trans rfl)) (fun r σ' n' hp => ?_)
  obtain ⟨rfl, p1, p2, p3, p4, rfl, p5, p6⟩ := hp
  refine ⟨rfl, p1, p2, p3, p4 _, rfl, [], ?_, ?_, [], List.mem_cons_self, fun f h => (by cases h)⟩
  · refine ⟨rfl, fun i e v he hv => ?_⟩
    match i, he, hv with
    | 0, he, hv => obtain rfl := Option.some.inj he; obtain rfl := Option.some.inj hv; exact ⟨⟨ha, Or.inl hka⟩, trivial⟩
    | 1, he, hv => obtain rfl := Option.some.inj he; obtain rfl := Option.some.inj hv; exact ⟨⟨bs, ds⟩, trivial⟩
    | 2, he, hv => obtain rfl := Option.some.inj he; obtain rfl := Option.some.inj hv; exact ⟨⟨bm, dm⟩, trivial⟩
    | k + 3, he, hv => simp [aPe, ag_BOputS27] at he
  · refine ⟨fun q h => (by cases h), fun q h => (by cases h), fun q h => (by cases h), (aAllc ⟨_, rfl, (fF_b (r := 3009) (by decide) rfl).mpr ?_⟩ (aAllc ⟨_, rfl, (fF_b (r := 2465) (by decide) rfl).mpr ?_⟩ (fun f h => by cases h)))⟩
    · refine ⟨by decide, _, _, rfl, p5, fun j hj => ?_⟩
      rw [show 188 - 160 = 28 from rfl, fFst_27 j hj]
      unfold upd
      rw [hq]
      split
      · omega
      · exact l0 j hj
    · exact ⟨_, _, rfl, p5, p6⟩
theorem ae_BOputS28 {l : Launch} {E : jE} {K : Nat → Nat} {n : Nat} : aMe (fF K n) l E jcl jtb lw_tbl fa_T K n (fJX K n) ag_BOputS28 := by
  intro p σ ρ hH hX hA hM
  have hG := aAG_of hA.1 (fun i e v he hv => (hA.2 i e v he hv).1)
  clear hA
  obtain ⟨v0, v1, v2, rfl, g0, g1, g2⟩ := fA_3 hG
  clear hG
  obtain ⟨a, rfl, ha, hka⟩ := fG_ref (by decide) g0
  obtain ⟨s, rfl, bs, ds⟩ := aG_int g1
  obtain ⟨m, rfl, bm, dm⟩ := aG_int g2
  dsimp only at bs ds bm dm
  obtain ⟨-, -, -, m4⟩ := hM
  have f0 : fB K n p 188 [fR a] σ := by
    obtain ⟨w, e6, e7⟩ := m4 (3009, [0]) (List.mem_of_getElem? (i := 0) rfl)
    obtain rfl : [fR a] = w := Option.some.inj (show some [fR a] = some w from e6)
    exact (fF_b (r := 3009) (by decide) rfl).mp e7
  have f1 : fB K n p 154 [fR a] σ := by
    obtain ⟨w, e6, e7⟩ := m4 (2465, [0]) (List.mem_of_getElem? (i := 1) rfl)
    obtain rfl : [fR a] = w := Option.some.inj (show some [fR a] = some w from e6)
    exact (fF_b (r := 2465) (by decide) rfl).mp e7
  clear m4
  obtain ⟨-, b, g, e, w, l0⟩ := f0
  cases e
  obtain ⟨b, g9, e, w9, u⟩ := f1
  cases e
  obtain rfl := fMe_u w9 w
  have hq : s.toInt.toNat = 7 := by omega
  refine jMet_post (fPutX hH hX ha hka ⟨by omega, by omega⟩ ⟨by omega, by omega⟩ w u (by rw [hq]; exact (l0 7 (by decide)).trans rfl)) (fun r σ' n' hp => ?_)
  obtain ⟨rfl, p1, p2, p3, p4, rfl, p5, p6⟩ := hp
  refine ⟨rfl, p1, p2, p3, p4 _, rfl, [], ?_, ?_, [], List.mem_cons_self, fun f h => (by cases h)⟩
  · refine ⟨rfl, fun i e v he hv => ?_⟩
    match i, he, hv with
    | 0, he, hv => obtain rfl := Option.some.inj he; obtain rfl := Option.some.inj hv; exact ⟨⟨ha, Or.inl hka⟩, trivial⟩
    | 1, he, hv => obtain rfl := Option.some.inj he; obtain rfl := Option.some.inj hv; exact ⟨⟨bs, ds⟩, trivial⟩
    | 2, he, hv => obtain rfl := Option.some.inj he; obtain rfl := Option.some.inj hv; exact ⟨⟨bm, dm⟩, trivial⟩
    | k + 3, he, hv => simp [aPe, ag_BOputS28] at he
  · refine ⟨fun q h => (by cases h), fun q h => (by cases h), fun q h => (by cases h), (aAllc ⟨_, rfl, (fF_b (r := 3025) (by decide) rfl).mpr ?_⟩ (aAllc ⟨_, rfl, (fF_b (r := 2465) (by decide) rfl).mpr ?_⟩ (fun f h => by cases h)))⟩
    · refine ⟨by decide, _, _, rfl, p5, fun j hj => ?_⟩
      rw [show 189 - 160 = 29 from rfl, fFst_28 j hj]
      unfold upd
      rw [hq]
      split
      · omega
      · exact l0 j hj
    · exact ⟨_, _, rfl, p5, p6⟩
theorem ae_BOputS29 {l : Launch} {E : jE} {K : Nat → Nat} {n : Nat} : aMe (fF K n) l E jcl jtb lw_tbl fa_T K n (fJX K n) ag_BOputS29 := by
  intro p σ ρ hH hX hA hM
  have hG := aAG_of hA.1 (fun i e v he hv => (hA.2 i e v he hv).1)
  clear hA
  obtain ⟨v0, v1, v2, rfl, g0, g1, g2⟩ := fA_3 hG
  clear hG
  obtain ⟨a, rfl, ha, hka⟩ := fG_ref (by decide) g0
  obtain ⟨s, rfl, bs, ds⟩ := aG_int g1
  obtain ⟨m, rfl, bm, dm⟩ := aG_int g2
  dsimp only at bs ds bm dm
  obtain ⟨-, -, -, m4⟩ := hM
  have f0 : fB K n p 189 [fR a] σ := by
    obtain ⟨w, e6, e7⟩ := m4 (3025, [0]) (List.mem_of_getElem? (i := 0) rfl)
    obtain rfl : [fR a] = w := Option.some.inj (show some [fR a] = some w from e6)
    exact (fF_b (r := 3025) (by decide) rfl).mp e7
  have f1 : fB K n p 154 [fR a] σ := by
    obtain ⟨w, e6, e7⟩ := m4 (2465, [0]) (List.mem_of_getElem? (i := 1) rfl)
    obtain rfl : [fR a] = w := Option.some.inj (show some [fR a] = some w from e6)
    exact (fF_b (r := 2465) (by decide) rfl).mp e7
  clear m4
  obtain ⟨-, b, g, e, w, l0⟩ := f0
  cases e
  obtain ⟨b, g9, e, w9, u⟩ := f1
  cases e
  obtain rfl := fMe_u w9 w
  have hq : s.toInt.toNat = 15 := by omega
  refine jMet_post (fPutX hH hX ha hka ⟨by omega, by omega⟩ ⟨by omega, by omega⟩ w u (by rw [hq]; exact (l0 15 (by decide)).trans rfl)) (fun r σ' n' hp => ?_)
  obtain ⟨rfl, p1, p2, p3, p4, rfl, p5, p6⟩ := hp
  refine ⟨rfl, p1, p2, p3, p4 _, rfl, [], ?_, ?_, [], List.mem_cons_self, fun f h => (by cases h)⟩
  · refine ⟨rfl, fun i e v he hv => ?_⟩
    match i, he, hv with
    | 0, he, hv => obtain rfl := Option.some.inj he; obtain rfl := Option.some.inj hv; exact ⟨⟨ha, Or.inl hka⟩, trivial⟩
    | 1, he, hv => obtain rfl := Option.some.inj he; obtain rfl := Option.some.inj hv; exact ⟨⟨bs, ds⟩, trivial⟩
    | 2, he, hv => obtain rfl := Option.some.inj he; obtain rfl := Option.some.inj hv; exact ⟨⟨bm, dm⟩, trivial⟩
    | k + 3, he, hv => simp [aPe, ag_BOputS29] at he
  · refine ⟨fun q h => (by cases h), fun q h => (by cases h), fun q h => (by cases h), (aAllc ⟨_, rfl, (fF_b (r := 3041) (by decide) rfl).mpr ?_⟩ (aAllc ⟨_, rfl, (fF_b (r := 2465) (by decide) rfl).mpr ?_⟩ (fun f h => by cases h)))⟩
    · refine ⟨by decide, _, _, rfl, p5, fun j hj => ?_⟩
      rw [show 190 - 160 = 30 from rfl, fFst_29 j hj]
      unfold upd
      rw [hq]
      split
      · omega
      · exact l0 j hj
    · exact ⟨_, _, rfl, p5, p6⟩
theorem ae_BOputS30 {l : Launch} {E : jE} {K : Nat → Nat} {n : Nat} : aMe (fF K n) l E jcl jtb lw_tbl fa_T K n (fJX K n) ag_BOputS30 := by
  intro p σ ρ hH hX hA hM
  have hG := aAG_of hA.1 (fun i e v he hv => (hA.2 i e v he hv).1)
  clear hA
  obtain ⟨v0, v1, v2, rfl, g0, g1, g2⟩ := fA_3 hG
  clear hG
  obtain ⟨a, rfl, ha, hka⟩ := fG_ref (by decide) g0
  obtain ⟨s, rfl, bs, ds⟩ := aG_int g1
  obtain ⟨m, rfl, bm, dm⟩ := aG_int g2
  dsimp only at bs ds bm dm
  obtain ⟨-, -, -, m4⟩ := hM
  have f0 : fB K n p 190 [fR a] σ := by
    obtain ⟨w, e6, e7⟩ := m4 (3041, [0]) (List.mem_of_getElem? (i := 0) rfl)
    obtain rfl : [fR a] = w := Option.some.inj (show some [fR a] = some w from e6)
    exact (fF_b (r := 3041) (by decide) rfl).mp e7
  have f1 : fB K n p 154 [fR a] σ := by
    obtain ⟨w, e6, e7⟩ := m4 (2465, [0]) (List.mem_of_getElem? (i := 1) rfl)
    obtain rfl : [fR a] = w := Option.some.inj (show some [fR a] = some w from e6)
    exact (fF_b (r := 2465) (by decide) rfl).mp e7
  clear m4
  obtain ⟨-, b, g, e, w, l0⟩ := f0
  cases e
  obtain ⟨b, g9, e, w9, u⟩ := f1
  cases e
  obtain rfl := fMe_u w9 w
  have hq : s.toInt.toNat = 55 := by omega
  refine jMet_post (fPutX hH hX ha hka ⟨by omega, by omega⟩ ⟨by omega, by omega⟩ w u (by rw [hq]; exact (l0 55 (by decide)).trans rfl)) (fun r σ' n' hp => ?_)
  obtain ⟨rfl, p1, p2, p3, p4, rfl, p5, p6⟩ := hp
  refine ⟨rfl, p1, p2, p3, p4 _, rfl, [], ?_, ?_, [], List.mem_cons_self, fun f h => (by cases h)⟩
  · refine ⟨rfl, fun i e v he hv => ?_⟩
    match i, he, hv with
    | 0, he, hv => obtain rfl := Option.some.inj he; obtain rfl := Option.some.inj hv; exact ⟨⟨ha, Or.inl hka⟩, trivial⟩
    | 1, he, hv => obtain rfl := Option.some.inj he; obtain rfl := Option.some.inj hv; exact ⟨⟨bs, ds⟩, trivial⟩
    | 2, he, hv => obtain rfl := Option.some.inj he; obtain rfl := Option.some.inj hv; exact ⟨⟨bm, dm⟩, trivial⟩
    | k + 3, he, hv => simp [aPe, ag_BOputS30] at he
  · refine ⟨fun q h => (by cases h), fun q h => (by cases h), fun q h => (by cases h), (aAllc ⟨_, rfl, (fF_b (r := 3057) (by decide) rfl).mpr ?_⟩ (aAllc ⟨_, rfl, (fF_b (r := 2465) (by decide) rfl).mpr ?_⟩ (fun f h => by cases h)))⟩
    · refine ⟨by decide, _, _, rfl, p5, fun j hj => ?_⟩
      rw [show 191 - 160 = 31 from rfl, fFst_30 j hj]
      unfold upd
      rw [hq]
      split
      · omega
      · exact l0 j hj
    · exact ⟨_, _, rfl, p5, p6⟩
theorem ae_BOputS31 {l : Launch} {E : jE} {K : Nat → Nat} {n : Nat} : aMe (fF K n) l E jcl jtb lw_tbl fa_T K n (fJX K n) ag_BOputS31 := by
  intro p σ ρ hH hX hA hM
  have hG := aAG_of hA.1 (fun i e v he hv => (hA.2 i e v he hv).1)
  clear hA
  obtain ⟨v0, v1, v2, rfl, g0, g1, g2⟩ := fA_3 hG
  clear hG
  obtain ⟨a, rfl, ha, hka⟩ := fG_ref (by decide) g0
  obtain ⟨s, rfl, bs, ds⟩ := aG_int g1
  obtain ⟨m, rfl, bm, dm⟩ := aG_int g2
  dsimp only at bs ds bm dm
  obtain ⟨-, -, -, m4⟩ := hM
  have f0 : fB K n p 191 [fR a] σ := by
    obtain ⟨w, e6, e7⟩ := m4 (3057, [0]) (List.mem_of_getElem? (i := 0) rfl)
    obtain rfl : [fR a] = w := Option.some.inj (show some [fR a] = some w from e6)
    exact (fF_b (r := 3057) (by decide) rfl).mp e7
  have f1 : fB K n p 154 [fR a] σ := by
    obtain ⟨w, e6, e7⟩ := m4 (2465, [0]) (List.mem_of_getElem? (i := 1) rfl)
    obtain rfl : [fR a] = w := Option.some.inj (show some [fR a] = some w from e6)
    exact (fF_b (r := 2465) (by decide) rfl).mp e7
  clear m4
  obtain ⟨-, b, g, e, w, l0⟩ := f0
  cases e
  obtain ⟨b, g9, e, w9, u⟩ := f1
  cases e
  obtain rfl := fMe_u w9 w
  have hq : s.toInt.toNat = 63 := by omega
  refine jMet_post (fPutX hH hX ha hka ⟨by omega, by omega⟩ ⟨by omega, by omega⟩ w u (by rw [hq]; exact (l0 63 (by decide)).trans rfl)) (fun r σ' n' hp => ?_)
  obtain ⟨rfl, p1, p2, p3, p4, rfl, p5, p6⟩ := hp
  refine ⟨rfl, p1, p2, p3, p4 _, rfl, [], ?_, ?_, [], List.mem_cons_self, fun f h => (by cases h)⟩
  · refine ⟨rfl, fun i e v he hv => ?_⟩
    match i, he, hv with
    | 0, he, hv => obtain rfl := Option.some.inj he; obtain rfl := Option.some.inj hv; exact ⟨⟨ha, Or.inl hka⟩, trivial⟩
    | 1, he, hv => obtain rfl := Option.some.inj he; obtain rfl := Option.some.inj hv; exact ⟨⟨bs, ds⟩, trivial⟩
    | 2, he, hv => obtain rfl := Option.some.inj he; obtain rfl := Option.some.inj hv; exact ⟨⟨bm, dm⟩, trivial⟩
    | k + 3, he, hv => simp [aPe, ag_BOputS31] at he
  · refine ⟨fun q h => (by cases h), fun q h => (by cases h), fun q h => (by cases h), (aAllc ⟨_, rfl, (fF_b (r := 3073) (by decide) rfl).mpr ?_⟩ (aAllc ⟨_, rfl, (fF_b (r := 2465) (by decide) rfl).mpr ?_⟩ (fun f h => by cases h)))⟩
    · refine ⟨by decide, _, _, rfl, p5, fun j hj => ?_⟩
      rw [show 192 - 160 = 32 from rfl, fFst_31 j hj]
      unfold upd
      rw [hq]
      split
      · omega
      · exact l0 j hj
    · exact ⟨_, _, rfl, p5, p6⟩
end
