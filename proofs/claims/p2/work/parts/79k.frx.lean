/-! rules of positions that are read: their proofs -/
theorem f130b {K : Nat → Nat} {n : Nat} {p : fP} {σ : Nat → jcell} {b : Nat} {i : Int32} (h : fB K n p 130 [fR b, fI i] σ) : ∃ g : Nat → Int32, fMe K n σ b g ∧ (∀ j : Nat, (j : Int) < i.toInt → fNp (g j) ∧ fNp (g (56 + j))) ∧ fNp (g i.toInt.toNat) := by
  obtain ⟨b', i', g, w, h⟩ := h
  rcases h with ⟨e, h1, h2⟩ | ⟨x, e, -⟩ | ⟨v, w', e, -⟩
  · cases e; exact ⟨g, w, h1, h2⟩
  · cases e
  · cases e
theorem f130c {K : Nat → Nat} {n : Nat} {p : fP} {σ : Nat → jcell} {b : Nat} {i x : Int32} (h : fB K n p 130 [fR b, fI i, fI x] σ) : ∃ g : Nat → Int32, fMe K n σ b g ∧ ∀ j : Nat, (j : Int) < i.toInt + 1 → fNp (g j) ∧ fNp (g (56 + j)) := by
  obtain ⟨b', i', g, w, h⟩ := h
  rcases h with ⟨e, -⟩ | ⟨x, e, h1⟩ | ⟨v, w', e, -⟩
  · cases e
  · cases e; exact ⟨g, w, h1⟩
  · cases e
theorem f130d {K : Nat → Nat} {n : Nat} {p : fP} {σ : Nat → jcell} {b : Nat} {i x y : Int32} (h : fB K n p 130 [fR b, fI i, fI x, fI y] σ) : ∃ g : Nat → Int32, fMe K n σ b g ∧ g (56 + i.toInt.toNat) = x := by
  obtain ⟨b', i', g, w, h⟩ := h
  rcases h with ⟨e, -⟩ | ⟨x, e, -⟩ | ⟨v, w', e, h1⟩
  · cases e
  · cases e
  · cases e; exact ⟨g, w, h1⟩
theorem bSn_0 {W : Nat → Int32} {c : Nat} {g : Nat → Int32} : ∀ (k : Nat), (∀ j, j < k → (g j).toInt = 0) → bSn W c g k = 0
  | 0, _ => rfl
  | k + 1, h => by
    show bSn W c g k + bW W c (g k) k = 0
    rw [bSn_0 k (fun j hj => h j (by omega)), show g k = 0 from Int32.toInt_inj.mp (by rw [h k (by omega)]; rfl)]
    rfl
theorem fFst_0 : ∀ j, j < 64 → fFst 1 j = if j = 0 then 4 else fFst 0 j := by decide +kernel
theorem fFst_1 : ∀ j, j < 64 → fFst 2 j = if j = 8 then 1 else fFst 1 j := by decide +kernel
theorem fFst_2 : ∀ j, j < 64 → fFst 3 j = if j = 48 then 9 else fFst 2 j := by decide +kernel
theorem fFst_3 : ∀ j, j < 64 → fFst 4 j = if j = 56 then 12 else fFst 3 j := by decide +kernel
theorem fFst_4 : ∀ j, j < 64 → fFst 5 j = if j = 1 then 2 else fFst 4 j := by decide +kernel
theorem fFst_5 : ∀ j, j < 64 → fFst 6 j = if j = 9 then 1 else fFst 5 j := by decide +kernel
theorem fFst_6 : ∀ j, j < 64 → fFst 7 j = if j = 49 then 9 else fFst 6 j := by decide +kernel
theorem fFst_7 : ∀ j, j < 64 → fFst 8 j = if j = 57 then 10 else fFst 7 j := by decide +kernel
theorem fFst_8 : ∀ j, j < 64 → fFst 9 j = if j = 2 then 3 else fFst 8 j := by decide +kernel
theorem fFst_9 : ∀ j, j < 64 → fFst 10 j = if j = 10 then 1 else fFst 9 j := by decide +kernel
theorem fFst_10 : ∀ j, j < 64 → fFst 11 j = if j = 50 then 9 else fFst 10 j := by decide +kernel
theorem fFst_11 : ∀ j, j < 64 → fFst 12 j = if j = 58 then 11 else fFst 11 j := by decide +kernel
theorem fFst_12 : ∀ j, j < 64 → fFst 13 j = if j = 3 then 5 else fFst 12 j := by decide +kernel
theorem fFst_13 : ∀ j, j < 64 → fFst 14 j = if j = 11 then 1 else fFst 13 j := by decide +kernel
theorem fFst_14 : ∀ j, j < 64 → fFst 15 j = if j = 51 then 9 else fFst 14 j := by decide +kernel
theorem fFst_15 : ∀ j, j < 64 → fFst 16 j = if j = 59 then 13 else fFst 15 j := by decide +kernel
theorem fFst_16 : ∀ j, j < 64 → fFst 17 j = if j = 4 then 6 else fFst 16 j := by decide +kernel
theorem fFst_17 : ∀ j, j < 64 → fFst 18 j = if j = 12 then 1 else fFst 17 j := by decide +kernel
theorem fFst_18 : ∀ j, j < 64 → fFst 19 j = if j = 52 then 9 else fFst 18 j := by decide +kernel
theorem fFst_19 : ∀ j, j < 64 → fFst 20 j = if j = 60 then 14 else fFst 19 j := by decide +kernel
theorem fFst_20 : ∀ j, j < 64 → fFst 21 j = if j = 5 then 3 else fFst 20 j := by decide +kernel
theorem fFst_21 : ∀ j, j < 64 → fFst 22 j = if j = 13 then 1 else fFst 21 j := by decide +kernel
theorem fFst_22 : ∀ j, j < 64 → fFst 23 j = if j = 53 then 9 else fFst 22 j := by decide +kernel
theorem fFst_23 : ∀ j, j < 64 → fFst 24 j = if j = 61 then 11 else fFst 23 j := by decide +kernel
theorem fFst_24 : ∀ j, j < 64 → fFst 25 j = if j = 6 then 2 else fFst 24 j := by decide +kernel
theorem fFst_25 : ∀ j, j < 64 → fFst 26 j = if j = 14 then 1 else fFst 25 j := by decide +kernel
theorem fFst_26 : ∀ j, j < 64 → fFst 27 j = if j = 54 then 9 else fFst 26 j := by decide +kernel
theorem fFst_27 : ∀ j, j < 64 → fFst 28 j = if j = 62 then 10 else fFst 27 j := by decide +kernel
theorem fFst_28 : ∀ j, j < 64 → fFst 29 j = if j = 7 then 4 else fFst 28 j := by decide +kernel
theorem fFst_29 : ∀ j, j < 64 → fFst 30 j = if j = 15 then 1 else fFst 29 j := by decide +kernel
theorem fFst_30 : ∀ j, j < 64 → fFst 31 j = if j = 55 then 9 else fFst 30 j := by decide +kernel
theorem fFst_31 : ∀ j, j < 64 → fFst 32 j = if j = 63 then 12 else fFst 31 j := by decide +kernel
theorem fFst_ok : ∀ j, j < 64 → 0 ≤ fFst 32 j ∧ fFst 32 j ≤ 14 ∧ ¬ fFst 32 j = 7 ∧ ¬ fFst 32 j = 8 ∧ ((¬ fFst 32 j = 1 ∧ ¬ fFst 32 j = 9) ∨ (8 ≤ j ∧ j ≤ 55)) := by decide +kernel
set_option maxRecDepth 8192 in
theorem rw_ruFL0 {K : Nat → Nat} {n : Nat} : aGho (fF K n) fa_T K n (fJX K n) ag_ruFL0 := by
  refine aGho_of ⟨rfl, rfl⟩ ?_
  intro p σ ρ hH hX hA hM
  have hG := aAG_of hA.1 (fun i e v he hv => (hA.2 i e v he hv).1)
  clear hA
  obtain ⟨v0, v1, rfl, g0, g1⟩ := fA_2 hG
  clear hG
  obtain ⟨x0, rfl, b0, d0⟩ := fG_ref (by decide) g0
  obtain ⟨x1, rfl, b1, d1⟩ := aG_int g1
  dsimp only at b1 d1
  obtain ⟨m1, m2, m3, m4⟩ := hM
  clear m1 m2 m3 m4
  obtain ⟨g, eg⟩ := fRow hH b0 d0 (q := (.int, 64, (0, 15), [])) rfl (by intro h; cases h)
  have q0 : fB K n (p) 135 [fR x0, fI x1] σ := by
    exact ⟨_, _, g, rfl, b0, d0, eg, fun j hj => by omega⟩
  exact ⟨p, fun _ => rfl, ⟨(fun q h => by cases h), fun q h => (by cases h), (fun f h => by cases h), (aAllc ⟨_, rfl, (fF_b (r := 2162) (by decide) rfl).mpr q0⟩ (fun f h => by cases h))⟩, [], List.mem_cons_self, fun f h => (by cases h)⟩
set_option maxRecDepth 8192 in
theorem rw_ruFLp {K : Nat → Nat} {n : Nat} : aGho (fF K n) fa_T K n (fJX K n) ag_ruFLp := by
  refine aGho_of ⟨rfl, rfl⟩ ?_
  intro p σ ρ hH hX hA hM
  have hG := aAG_of hA.1 (fun i e v he hv => (hA.2 i e v he hv).1)
  clear hA
  obtain ⟨v0, v1, v2, rfl, g0, g1, g2⟩ := fA_3 hG
  clear hG
  obtain ⟨x0, rfl, b0, d0⟩ := fG_ref (by decide) g0
  obtain ⟨x1, rfl, b1, d1⟩ := aG_int g1
  dsimp only at b1 d1
  obtain ⟨x2, rfl, b2, d2⟩ := aG_int g2
  dsimp only at b2 d2
  obtain ⟨m1, m2, m3, m4⟩ := hM
  have f0 : fB K n p 135 [fR x0, fI x1] σ := by
    obtain ⟨w, e6, e7⟩ := m4 (2162, [0, 1]) (List.mem_of_getElem? (i := 0) rfl)
    obtain rfl : [fR x0, fI x1] = w := Option.some.inj (show some [fR x0, fI x1] = some w from e6)
    exact (fF_b (r := 2162) (by decide) rfl).mp e7
  clear m1 m2 m3 m4
  obtain ⟨r, i, g, e, l1, l2, l3, l4⟩ := f0
  cases e
  have q0 : fB K n (p) 136 [fR x0, fI x1] (jup σ x0 (jsto (σ x0) x1.toNatClampNeg x2)) := by
    refine ⟨_, _, upd g x1.toInt.toNat x2, rfl, l1, l2, by rw [jup_s, l3]; rfl, fun j hj => ?_⟩
    unfold upd
    split
    · omega
    · exact l4 j (by omega)
  exact ⟨p, fun _ => rfl, ⟨(fun q h => by cases h), fun q h => (by cases h), (fun f h => by cases h), (aAllc ⟨_, rfl, fF_p (r := 2178) (by decide) (by decide) rfl q0⟩ (fun f h => by cases h))⟩, [], List.mem_cons_self, fun f h => (by cases h)⟩
set_option maxRecDepth 8192 in
theorem rw_ruFLn {K : Nat → Nat} {n : Nat} : aGho (fF K n) fa_T K n (fJX K n) ag_ruFLn := by
  refine aGho_of ⟨rfl, rfl⟩ ?_
  intro p σ ρ hH hX hA hM
  have hG := aAG_of hA.1 (fun i e v he hv => (hA.2 i e v he hv).1)
  clear hA
  obtain ⟨v0, v1, v2, rfl, g0, g1, g2⟩ := fA_3 hG
  clear hG
  obtain ⟨x0, rfl, b0, d0⟩ := fG_ref (by decide) g0
  obtain ⟨x1, rfl, b1, d1⟩ := aG_int g1
  dsimp only at b1 d1
  obtain ⟨x2, rfl, b2, d2⟩ := aG_int g2
  dsimp only at b2 d2
  obtain ⟨m1, m2, m3, m4⟩ := hM
  have l0 : 0 ≤ (1 * x2.toInt + (-1 * x1.toInt + 0)) + -1 := by
    obtain ⟨z, e6, e7⟩ := m3 ([(2, 1), (1, -1)], -1) (List.mem_of_getElem? (i := 0) rfl)
    obtain rfl : (1 * x2.toInt + (-1 * x1.toInt + 0)) = z := Option.some.inj (show some (1 * x2.toInt + (-1 * x1.toInt + 0)) = some z from e6)
    exact e7
  have l1 : 0 ≤ (-1 * x2.toInt + (1 * x1.toInt + 0)) + 1 := by
    obtain ⟨z, e6, e7⟩ := m3 ([(2, -1), (1, 1)], 1) (List.mem_of_getElem? (i := 1) rfl)
    obtain rfl : (-1 * x2.toInt + (1 * x1.toInt + 0)) = z := Option.some.inj (show some (-1 * x2.toInt + (1 * x1.toInt + 0)) = some z from e6)
    exact e7
  have f0 : fB K n p 136 [fR x0, fI x1] σ := by
    obtain ⟨w, e6, e7⟩ := m4 (2178, [0, 1]) (List.mem_of_getElem? (i := 0) rfl)
    obtain rfl : [fR x0, fI x1] = w := Option.some.inj (show some [fR x0, fI x1] = some w from e6)
    exact (fF_b (r := 2178) (by decide) rfl).mp e7
  clear m1 m2 m3 m4
  obtain ⟨r, i, g, e, l1, l2, l3, l4⟩ := f0
  cases e
  have q0 : fB K n (p) 135 [fR x0, fI x2] σ := by
    exact ⟨_, _, g, rfl, l1, l2, l3, fun j hj => l4 j (by omega)⟩
  exact ⟨p, fun _ => rfl, ⟨(fun q h => by cases h), fun q h => (by cases h), (fun f h => by cases h), (aAllc ⟨_, rfl, (fF_b (r := 2162) (by decide) rfl).mpr q0⟩ (fun f h => by cases h))⟩, [], List.mem_cons_self, fun f h => (by cases h)⟩
set_option maxRecDepth 8192 in
theorem rw_ruFLz {K : Nat → Nat} {n : Nat} : aGho (fF K n) fa_T K n (fJX K n) ag_ruFLz := by
  refine aGho_of ⟨rfl, rfl⟩ ?_
  intro p σ ρ hH hX hA hM
  have hG := aAG_of hA.1 (fun i e v he hv => (hA.2 i e v he hv).1)
  clear hA
  obtain ⟨v0, v1, rfl, g0, g1⟩ := fA_2 hG
  clear hG
  obtain ⟨x0, rfl, b0, d0⟩ := fG_ref (by decide) g0
  obtain ⟨x1, rfl, b1, d1⟩ := aG_int g1
  dsimp only at b1 d1
  obtain ⟨m1, m2, m3, m4⟩ := hM
  have l0 : 0 ≤ (1 * x1.toInt + 0) + -64 := by
    obtain ⟨z, e6, e7⟩ := m3 ([(1, 1)], -64) (List.mem_of_getElem? (i := 0) rfl)
    obtain rfl : (1 * x1.toInt + 0) = z := Option.some.inj (show some (1 * x1.toInt + 0) = some z from e6)
    exact e7
  have f0 : fB K n p 135 [fR x0, fI x1] σ := by
    obtain ⟨w, e6, e7⟩ := m4 (2162, [0, 1]) (List.mem_of_getElem? (i := 0) rfl)
    obtain rfl : [fR x0, fI x1] = w := Option.some.inj (show some [fR x0, fI x1] = some w from e6)
    exact (fF_b (r := 2162) (by decide) rfl).mp e7
  clear m1 m2 m3 m4
  obtain ⟨r, i, g, e, l1, l2, l3, l4⟩ := f0
  cases e
  have q0 : fB K n (p) 145 [fR x0] σ := by
    exact ⟨_, g, rfl, l1, l2, l3, fun j hj => l4 j (by omega)⟩
  exact ⟨p, fun _ => rfl, ⟨(fun q h => by cases h), fun q h => (by cases h), (fun f h => by cases h), (aAllc ⟨_, rfl, (fF_b (r := 2321) (by decide) rfl).mpr q0⟩ (fun f h => by cases h))⟩, [], List.mem_cons_self, fun f h => (by cases h)⟩
set_option maxRecDepth 8192 in
theorem rw_ruMN0 {K : Nat → Nat} {n : Nat} : aGho (fF K n) fa_T K n (fJX K n) ag_ruMN0 := by
  refine aGho_of ⟨rfl, rfl⟩ ?_
  intro p σ ρ hH hX hA hM
  have hG := aAG_of hA.1 (fun i e v he hv => (hA.2 i e v he hv).1)
  clear hA
  obtain ⟨v0, v1, rfl, g0, g1⟩ := fA_2 hG
  clear hG
  obtain ⟨x0, rfl, b0, d0⟩ := fG_ref (by decide) g0
  obtain ⟨x1, rfl, b1, d1⟩ := fG_ref (by decide) g1
  obtain ⟨m1, m2, m3, m4⟩ := hM
  obtain ⟨a0, c0, fs0, w0, e1, s0, t0, e4⟩ := m1 (0, 0, 1) (List.mem_of_getElem? (i := 0) rfl)
  obtain rfl : x0 = a0 := Sum.inl.inj (Option.some.inj (Sum.inr.inj (Sum.inr.inj (Option.some.inj (show some (fR x0) = some _ from e1)))))
  obtain rfl : fR x1 = w0 := Option.some.inj (show some (fR x1) = some w0 from e4)
  clear e1 e4
  have f0 : fB K n p 145 [fR x1] σ := by
    obtain ⟨w, e6, e7⟩ := m4 (2321, [1]) (List.mem_of_getElem? (i := 0) rfl)
    obtain rfl : [fR x1] = w := Option.some.inj (show some [fR x1] = some w from e6)
    exact (fF_b (r := 2321) (by decide) rfl).mp e7
  clear m1 m2 m3 m4
  obtain ⟨r, g, e, l1, l2, l3, l4⟩ := f0
  cases e
  have q0 : fB K n (p) 137 [fR x0] σ := by
    exact ⟨_, g, rfl, ⟨_, ⟨b0, d0, _, _, s0, t0⟩, l1, l2, l3⟩, fun j hj => by have := l4 j hj; unfold fOm; omega⟩
  exact ⟨p, fun _ => rfl, ⟨(fun q h => by cases h), fun q h => (by cases h), (fun f h => by cases h), (aAllc ⟨_, rfl, (fF_b (r := 2193) (by decide) rfl).mpr q0⟩ (fun f h => by cases h))⟩, [], List.mem_cons_self, fun f h => (by cases h)⟩
set_option maxRecDepth 8192 in
theorem rw_ruZW0 {K : Nat → Nat} {n : Nat} : aGho (fF K n) fa_T K n (fJX K n) ag_ruZW0 := by
  refine aGho_of ⟨rfl, rfl⟩ ?_
  intro p σ ρ hH hX hA hM
  have hG := aAG_of hA.1 (fun i e v he hv => (hA.2 i e v he hv).1)
  clear hA
  obtain ⟨v0, v1, v2, rfl, g0, g1, g2⟩ := fA_3 hG
  clear hG
  obtain ⟨x0, rfl, b0, d0⟩ := fG_ref (by decide) g0
  obtain ⟨x1, rfl, b1, d1⟩ := aG_int g1
  dsimp only at b1 d1
  obtain ⟨x2, rfl, b2, d2⟩ := aG_int g2
  dsimp only at b2 d2
  obtain ⟨m1, m2, m3, m4⟩ := hM
  clear m1 m2 m3 m4
  obtain ⟨g, eg⟩ := fRow hH b0 d0 (q := (.int, 2, (-2147483648, 2147483647), [])) rfl (by intro h; cases h)
  have q0 : fB K n (p) 158 [fR x0] (jup σ x0 (jsto (σ x0) x1.toNatClampNeg x2)) := by
    refine ⟨_, upd g x1.toNatClampNeg x2, rfl, b0, d0, by rw [jup_s, eg]; rfl, ?_⟩
    rw [show x1.toNatClampNeg = 0 from by rw [fNc]; omega, upd_s]
    exact Int32.toInt_inj.mp (by rw [show (0 : Int32).toInt = 0 from rfl]; omega)
  exact ⟨p, fun _ => rfl, ⟨(fun q h => by cases h), fun q h => (by cases h), (fun f h => by cases h), (aAllc ⟨_, rfl, fF_p (r := 2529) (by decide) (by decide) rfl q0⟩ (fun f h => by cases h))⟩, [], List.mem_cons_self, fun f h => (by cases h)⟩
set_option maxRecDepth 8192 in
theorem rw_ruZW1 {K : Nat → Nat} {n : Nat} : aGho (fF K n) fa_T K n (fJX K n) ag_ruZW1 := by
  refine aGho_of ⟨rfl, rfl⟩ ?_
  intro p σ ρ hH hX hA hM
  have hG := aAG_of hA.1 (fun i e v he hv => (hA.2 i e v he hv).1)
  clear hA
  obtain ⟨v0, v1, v2, rfl, g0, g1, g2⟩ := fA_3 hG
  clear hG
  obtain ⟨x0, rfl, b0, d0⟩ := fG_ref (by decide) g0
  obtain ⟨x1, rfl, b1, d1⟩ := aG_int g1
  dsimp only at b1 d1
  obtain ⟨x2, rfl, b2, d2⟩ := aG_int g2
  dsimp only at b2 d2
  obtain ⟨m1, m2, m3, m4⟩ := hM
  have f0 : fB K n p 158 [fR x0] σ := by
    obtain ⟨w, e6, e7⟩ := m4 (2529, [0]) (List.mem_of_getElem? (i := 0) rfl)
    obtain rfl : [fR x0] = w := Option.some.inj (show some [fR x0] = some w from e6)
    exact (fF_b (r := 2529) (by decide) rfl).mp e7
  clear m1 m2 m3 m4
  obtain ⟨r, g, e, l1, l2, l3, l4⟩ := f0
  cases e
  have q0 : fB K n (p) 159 [fR x0] (jup σ x0 (jsto (σ x0) x1.toNatClampNeg x2)) := by
    refine ⟨_, upd g x1.toNatClampNeg x2, rfl, l1, l2, by rw [jup_s, l3]; rfl, ?_, ?_⟩
    · rw [show x1.toNatClampNeg = 1 from by rw [fNc]; omega, upd_o (by decide)]
      exact l4
    · rw [show x1.toNatClampNeg = 1 from by rw [fNc]; omega, upd_s]
      exact Int32.toInt_inj.mp (by rw [show (0 : Int32).toInt = 0 from rfl]; omega)
  exact ⟨p, fun _ => rfl, ⟨(fun q h => by cases h), fun q h => (by cases h), (fun f h => by cases h), (aAllc ⟨_, rfl, fF_p (r := 2545) (by decide) (by decide) rfl q0⟩ (fun f h => by cases h))⟩, [], List.mem_cons_self, fun f h => (by cases h)⟩
set_option maxRecDepth 8192 in
theorem rw_ruWS0 {K : Nat → Nat} {n : Nat} : aGho (fF K n) fa_T K n (fJX K n) ag_ruWS0 := by
  refine aGho_of ⟨rfl, rfl⟩ ?_
  intro p σ ρ hH hX hA hM
  have hG := aAG_of hA.1 (fun i e v he hv => (hA.2 i e v he hv).1)
  clear hA
  obtain ⟨v0, v1, v2, rfl, g0, g1, g2⟩ := fA_3 hG
  clear hG
  obtain ⟨x0, rfl, b0, d0⟩ := fG_ref (by decide) g0
  obtain ⟨x1, rfl, b1, d1⟩ := fG_ref (by decide) g1
  obtain ⟨x2, rfl, b2, d2⟩ := fG_ref (by decide) g2
  obtain ⟨m1, m2, m3, m4⟩ := hM
  obtain ⟨a0, c0, fs0, w0, e1, s0, t0, e4⟩ := m1 (0, 0, 1) (List.mem_of_getElem? (i := 0) rfl)
  obtain rfl : x0 = a0 := Sum.inl.inj (Option.some.inj (Sum.inr.inj (Sum.inr.inj (Option.some.inj (show some (fR x0) = some _ from e1)))))
  obtain rfl : fR x1 = w0 := Option.some.inj (show some (fR x1) = some w0 from e4)
  clear e1 e4
  obtain ⟨a1, c1, fs1, w1, e1, s1, t1, e4⟩ := m1 (0, 8, 2) (List.mem_of_getElem? (i := 1) rfl)
  obtain rfl : x0 = a1 := Sum.inl.inj (Option.some.inj (Sum.inr.inj (Sum.inr.inj (Option.some.inj (show some (fR x0) = some _ from e1)))))
  obtain rfl : fR x2 = w1 := Option.some.inj (show some (fR x2) = some w1 from e4)
  clear e1 e4
  have f0 : fB K n p 145 [fR x1] σ := by
    obtain ⟨w, e6, e7⟩ := m4 (2321, [1]) (List.mem_of_getElem? (i := 0) rfl)
    obtain rfl : [fR x1] = w := Option.some.inj (show some [fR x1] = some w from e6)
    exact (fF_b (r := 2321) (by decide) rfl).mp e7
  have f1 : fB K n p 159 [fR x2] σ := by
    obtain ⟨w, e6, e7⟩ := m4 (2545, [2]) (List.mem_of_getElem? (i := 1) rfl)
    obtain rfl : [fR x2] = w := Option.some.inj (show some [fR x2] = some w from e6)
    exact (fF_b (r := 2545) (by decide) rfl).mp e7
  clear m1 m2 m3 m4
  obtain ⟨r, g, e, l1, l2, l3, l4⟩ := f0
  cases e
  obtain ⟨r9, g9, e9, k1, k2, k3, k4, k5⟩ := f1
  cases e9
  have q0 : fB K n (p) 154 [fR x0] σ := by
    exact ⟨_, g, rfl, ⟨_, ⟨b0, d0, _, _, s0, t0⟩, l1, l2, l3⟩, fun j hj => by have := l4 j hj; omega, _, g9, ⟨b0, d0, _, _, s1, t1⟩, k1, k2, k3, by rw [k4, bSn_0 64 l4], by rw [k5, bSn_0 64 l4]⟩
  exact ⟨p, fun _ => rfl, ⟨(fun q h => by cases h), fun q h => (by cases h), (fun f h => by cases h), (aAllc ⟨_, rfl, (fF_b (r := 2465) (by decide) rfl).mpr q0⟩ (fun f h => by cases h))⟩, [], List.mem_cons_self, fun f h => (by cases h)⟩
set_option maxRecDepth 8192 in
theorem rw_ruEQ0 {K : Nat → Nat} {n : Nat} : aGho (fF K n) fa_T K n (fJX K n) ag_ruEQ0 := by
  refine aGho_of ⟨rfl, rfl⟩ ?_
  intro p σ ρ hH hX hA hM
  have hG := aAG_of hA.1 (fun i e v he hv => (hA.2 i e v he hv).1)
  clear hA
  obtain ⟨v0, v1, v2, rfl, g0, g1, g2⟩ := fA_3 hG
  clear hG
  obtain ⟨x0, rfl, b0, d0⟩ := fG_ref (by decide) g0
  obtain ⟨x1, rfl, b1, d1⟩ := aG_int g1
  dsimp only at b1 d1
  obtain ⟨x2, rfl, b2, d2⟩ := aG_int g2
  dsimp only at b2 d2
  obtain ⟨m1, m2, m3, m4⟩ := hM
  have f0 : fB K n p 160 [fR x0] σ := by
    obtain ⟨w, e6, e7⟩ := m4 (2561, [0]) (List.mem_of_getElem? (i := 0) rfl)
    obtain rfl : [fR x0] = w := Option.some.inj (show some [fR x0] = some w from e6)
    exact (fF_b (r := 2561) (by decide) rfl).mp e7
  clear m1 m2 m3 m4
  obtain ⟨-, b, g, e, w, l⟩ := f0
  cases e
  have q0 : fB K n (p) 156 [fR x0, fI x1, fI x2] σ := by
    exact ⟨_, _, _, g, rfl, w, fun j hj _ => by rw [l j hj]; rfl⟩
  exact ⟨p, fun _ => rfl, ⟨(fun q h => by cases h), fun q h => (by cases h), (fun f h => by cases h), (aAllc ⟨_, rfl, (fF_b (r := 2499) (by decide) rfl).mpr q0⟩ (fun f h => by cases h))⟩, [], List.mem_cons_self, fun f h => (by cases h)⟩
set_option maxRecDepth 8192 in
theorem rw_ruEQn {K : Nat → Nat} {n : Nat} : aGho (fF K n) fa_T K n (fJX K n) ag_ruEQn := by
  refine aGho_of ⟨rfl, rfl⟩ ?_
  intro p σ ρ hH hX hA hM
  have hG := aAG_of hA.1 (fun i e v he hv => (hA.2 i e v he hv).1)
  clear hA
  obtain ⟨v0, v1, v2, v3, v4, rfl, g0, g1, g2, g3, g4⟩ := fA_5 hG
  clear hG
  obtain ⟨x0, rfl, b0, d0⟩ := fG_ref (by decide) g0
  obtain ⟨x1, rfl, b1, d1⟩ := aG_int g1
  dsimp only at b1 d1
  obtain ⟨x2, rfl, b2, d2⟩ := aG_int g2
  dsimp only at b2 d2
  obtain ⟨x3, rfl, b3, d3⟩ := aG_int g3
  dsimp only at b3 d3
  obtain ⟨x4, rfl, b4, d4⟩ := aG_int g4
  dsimp only at b4 d4
  obtain ⟨m1, m2, m3, m4⟩ := hM
  have l0 : 0 ≤ (1 * x3.toInt + (-1 * x1.toInt + 0)) + 1 := by
    obtain ⟨z, e6, e7⟩ := m3 ([(3, 1), (1, -1)], 1) (List.mem_of_getElem? (i := 0) rfl)
    obtain rfl : (1 * x3.toInt + (-1 * x1.toInt + 0)) = z := Option.some.inj (show some (1 * x3.toInt + (-1 * x1.toInt + 0)) = some z from e6)
    exact e7
  have l1 : 0 ≤ (-1 * x3.toInt + (1 * x1.toInt + 0)) + -1 := by
    obtain ⟨z, e6, e7⟩ := m3 ([(3, -1), (1, 1)], -1) (List.mem_of_getElem? (i := 1) rfl)
    obtain rfl : (-1 * x3.toInt + (1 * x1.toInt + 0)) = z := Option.some.inj (show some (-1 * x3.toInt + (1 * x1.toInt + 0)) = some z from e6)
    exact e7
  have f0 : fB K n p 156 [fR x0, fI x1, fI x2] σ := by
    obtain ⟨w, e6, e7⟩ := m4 (2499, [0, 1, 2]) (List.mem_of_getElem? (i := 0) rfl)
    obtain rfl : [fR x0, fI x1, fI x2] = w := Option.some.inj (show some [fR x0, fI x1, fI x2] = some w from e6)
    exact (fF_b (r := 2499) (by decide) rfl).mp e7
  clear m1 m2 m3 m4
  obtain ⟨b, r, f, g, e, w, l⟩ := f0
  cases e
  have q0 : fB K n (p) 156 [fR x0, fI x3, fI x4] σ := by
    exact ⟨_, _, _, g, rfl, w, fun j hj h => l j hj (by omega)⟩
  exact ⟨p, fun _ => rfl, ⟨(fun q h => by cases h), fun q h => (by cases h), (fun f h => by cases h), (aAllc ⟨_, rfl, (fF_b (r := 2499) (by decide) rfl).mpr q0⟩ (fun f h => by cases h))⟩, [], List.mem_cons_self, fun f h => (by cases h)⟩
set_option maxRecDepth 8192 in
theorem rw_ruEQm {K : Nat → Nat} {n : Nat} : aGho (fF K n) fa_T K n (fJX K n) ag_ruEQm := by
  refine aGho_of ⟨rfl, rfl⟩ ?_
  intro p σ ρ hH hX hA hM
  have hG := aAG_of hA.1 (fun i e v he hv => (hA.2 i e v he hv).1)
  clear hA
  obtain ⟨v0, v1, v2, v3, rfl, g0, g1, g2, g3⟩ := fA_4 hG
  clear hG
  obtain ⟨x0, rfl, b0, d0⟩ := fG_ref (by decide) g0
  obtain ⟨x1, rfl, b1, d1⟩ := aG_int g1
  dsimp only at b1 d1
  obtain ⟨x2, rfl, b2, d2⟩ := aG_int g2
  dsimp only at b2 d2
  obtain ⟨x3, rfl, b3, d3⟩ := aG_int g3
  dsimp only at b3 d3
  obtain ⟨m1, m2, m3, m4⟩ := hM
  have l0 : 0 ≤ (1 * x3.toInt + (-1 * x2.toInt + 0)) + 0 := by
    obtain ⟨z, e6, e7⟩ := m3 ([(3, 1), (2, -1)], 0) (List.mem_of_getElem? (i := 0) rfl)
    obtain rfl : (1 * x3.toInt + (-1 * x2.toInt + 0)) = z := Option.some.inj (show some (1 * x3.toInt + (-1 * x2.toInt + 0)) = some z from e6)
    exact e7
  have f0 : fB K n p 156 [fR x0, fI x1, fI x2] σ := by
    obtain ⟨w, e6, e7⟩ := m4 (2499, [0, 1, 2]) (List.mem_of_getElem? (i := 0) rfl)
    obtain rfl : [fR x0, fI x1, fI x2] = w := Option.some.inj (show some [fR x0, fI x1, fI x2] = some w from e6)
    exact (fF_b (r := 2499) (by decide) rfl).mp e7
  clear m1 m2 m3 m4
  obtain ⟨b, r, f, g, e, w, l⟩ := f0
  cases e
  have q0 : fB K n (p) 156 [fR x0, fI x1, fI x3] σ := by
    exact ⟨_, _, _, g, rfl, w, fun j hj h => l j hj (by omega)⟩
  exact ⟨p, fun _ => rfl, ⟨(fun q h => by cases h), fun q h => (by cases h), (fun f h => by cases h), (aAllc ⟨_, rfl, (fF_b (r := 2499) (by decide) rfl).mpr q0⟩ (fun f h => by cases h))⟩, [], List.mem_cons_self, fun f h => (by cases h)⟩
set_option maxRecDepth 8192 in
theorem rw_ruEQs {K : Nat → Nat} {n : Nat} : aGho (fF K n) fa_T K n (fJX K n) ag_ruEQs := by
  refine aGho_of ⟨rfl, rfl⟩ ?_
  intro p σ ρ hH hX hA hM
  have hG := aAG_of hA.1 (fun i e v he hv => (hA.2 i e v he hv).1)
  clear hA
  obtain ⟨v0, v1, v2, v3, rfl, g0, g1, g2, g3⟩ := fA_4 hG
  clear hG
  obtain ⟨x0, rfl, b0, d0⟩ := fG_ref (by decide) g0
  obtain ⟨x1, rfl, b1, d1⟩ := aG_int g1
  dsimp only at b1 d1
  obtain ⟨x2, rfl, b2, d2⟩ := aG_int g2
  dsimp only at b2 d2
  obtain ⟨x3, rfl, b3, d3⟩ := aG_int g3
  dsimp only at b3 d3
  obtain ⟨m1, m2, m3, m4⟩ := hM
  have l0 : 0 ≤ (1 * x3.toInt + (-8 * x1.toInt + (-1 * x2.toInt + 0))) + 0 := by
    obtain ⟨z, e6, e7⟩ := m3 ([(3, 1), (1, -8), (2, -1)], 0) (List.mem_of_getElem? (i := 0) rfl)
    obtain rfl : (1 * x3.toInt + (-8 * x1.toInt + (-1 * x2.toInt + 0))) = z := Option.some.inj (show some (1 * x3.toInt + (-8 * x1.toInt + (-1 * x2.toInt + 0))) = some z from e6)
    exact e7
  have l1 : 0 ≤ (-1 * x3.toInt + (8 * x1.toInt + (1 * x2.toInt + 0))) + 0 := by
    obtain ⟨z, e6, e7⟩ := m3 ([(3, -1), (1, 8), (2, 1)], 0) (List.mem_of_getElem? (i := 1) rfl)
    obtain rfl : (-1 * x3.toInt + (8 * x1.toInt + (1 * x2.toInt + 0))) = z := Option.some.inj (show some (-1 * x3.toInt + (8 * x1.toInt + (1 * x2.toInt + 0))) = some z from e6)
    exact e7
  have f0 : fB K n p 156 [fR x0, fI x1, fI x2] σ := by
    obtain ⟨w, e6, e7⟩ := m4 (2499, [0, 1, 2]) (List.mem_of_getElem? (i := 0) rfl)
    obtain rfl : [fR x0, fI x1, fI x2] = w := Option.some.inj (show some [fR x0, fI x1, fI x2] = some w from e6)
    exact (fF_b (r := 2499) (by decide) rfl).mp e7
  clear m1 m2 m3 m4
  obtain ⟨b, r, f, g, e, w, l⟩ := f0
  cases e
  have q0 : fB K n (p) 155 [fR x0, fI x3] σ := by
    exact ⟨_, _, g, rfl, w, fun j hj h => l j hj (by omega)⟩
  exact ⟨p, fun _ => rfl, ⟨(fun q h => by cases h), fun q h => (by cases h), (fun f h => by cases h), (aAllc ⟨_, rfl, (fF_b (r := 2482) (by decide) rfl).mpr q0⟩ (fun f h => by cases h))⟩, [], List.mem_cons_self, fun f h => (by cases h)⟩
set_option maxRecDepth 8192 in
theorem rw_ruEQt {K : Nat → Nat} {n : Nat} : aGho (fF K n) fa_T K n (fJX K n) ag_ruEQt := by
  refine aGho_of ⟨rfl, rfl⟩ ?_
  intro p σ ρ hH hX hA hM
  have hG := aAG_of hA.1 (fun i e v he hv => (hA.2 i e v he hv).1)
  clear hA
  obtain ⟨v0, v1, v2, v3, v4, rfl, g0, g1, g2, g3, g4⟩ := fA_5 hG
  clear hG
  obtain ⟨x0, rfl, b0, d0⟩ := fG_ref (by decide) g0
  obtain ⟨x1, rfl, b1, d1⟩ := aG_int g1
  dsimp only at b1 d1
  obtain ⟨x2, rfl, b2, d2⟩ := aG_int g2
  dsimp only at b2 d2
  obtain ⟨x3, rfl, b3, d3⟩ := aG_int g3
  dsimp only at b3 d3
  obtain ⟨x4, rfl, b4, d4⟩ := aG_int g4
  dsimp only at b4 d4
  obtain ⟨m1, m2, m3, m4⟩ := hM
  have l0 : 0 ≤ (1 * x2.toInt + (-8 * x1.toInt + (-1 * x4.toInt + 0))) + 0 := by
    obtain ⟨z, e6, e7⟩ := m3 ([(2, 1), (1, -8), (4, -1)], 0) (List.mem_of_getElem? (i := 0) rfl)
    obtain rfl : (1 * x2.toInt + (-8 * x1.toInt + (-1 * x4.toInt + 0))) = z := Option.some.inj (show some (1 * x2.toInt + (-8 * x1.toInt + (-1 * x4.toInt + 0))) = some z from e6)
    exact e7
  have l1 : 0 ≤ (-1 * x2.toInt + (8 * x1.toInt + (1 * x4.toInt + 0))) + 0 := by
    obtain ⟨z, e6, e7⟩ := m3 ([(2, -1), (1, 8), (4, 1)], 0) (List.mem_of_getElem? (i := 1) rfl)
    obtain rfl : (-1 * x2.toInt + (8 * x1.toInt + (1 * x4.toInt + 0))) = z := Option.some.inj (show some (-1 * x2.toInt + (8 * x1.toInt + (1 * x4.toInt + 0))) = some z from e6)
    exact e7
  have l2 : 0 ≤ (1 * x3.toInt + (-1 * x4.toInt + 0)) + -1 := by
    obtain ⟨z, e6, e7⟩ := m3 ([(3, 1), (4, -1)], -1) (List.mem_of_getElem? (i := 2) rfl)
    obtain rfl : (1 * x3.toInt + (-1 * x4.toInt + 0)) = z := Option.some.inj (show some (1 * x3.toInt + (-1 * x4.toInt + 0)) = some z from e6)
    exact e7
  have l3 : 0 ≤ (-1 * x3.toInt + (1 * x4.toInt + 0)) + 1 := by
    obtain ⟨z, e6, e7⟩ := m3 ([(3, -1), (4, 1)], 1) (List.mem_of_getElem? (i := 3) rfl)
    obtain rfl : (-1 * x3.toInt + (1 * x4.toInt + 0)) = z := Option.some.inj (show some (-1 * x3.toInt + (1 * x4.toInt + 0)) = some z from e6)
    exact e7
  have f0 : fB K n p 144 [fR x0, fI x2] σ := by
    obtain ⟨w, e6, e7⟩ := m4 (2306, [0, 2]) (List.mem_of_getElem? (i := 0) rfl)
    obtain rfl : [fR x0, fI x2] = w := Option.some.inj (show some [fR x0, fI x2] = some w from e6)
    exact (fF_b (r := 2306) (by decide) rfl).mp e7
  clear m1 m2 m3 m4
  obtain ⟨b, s, g, e, w, l⟩ := f0
  cases e
  have q0 : fB K n (p) 156 [fR x0, fI x1, fI x3] σ := by
    exact ⟨_, _, _, g, rfl, w, fun j hj h => l j hj (by omega)⟩
  exact ⟨p, fun _ => rfl, ⟨(fun q h => by cases h), fun q h => (by cases h), (fun f h => by cases h), (aAllc ⟨_, rfl, (fF_b (r := 2499) (by decide) rfl).mpr q0⟩ (fun f h => by cases h))⟩, [], List.mem_cons_self, fun f h => (by cases h)⟩
set_option maxRecDepth 8192 in
theorem rw_ruPW0 {K : Nat → Nat} {n : Nat} : aGho (fF K n) fa_T K n (fJX K n) ag_ruPW0 := by
  refine aGho_of ⟨rfl, rfl⟩ ?_
  intro p σ ρ hH hX hA hM
  have hG := aAG_of hA.1 (fun i e v he hv => (hA.2 i e v he hv).1)
  clear hA
  obtain ⟨v0, v1, rfl, g0, g1⟩ := fA_2 hG
  clear hG
  obtain ⟨x0, rfl, b0, d0⟩ := fG_ref (by decide) g0
  obtain ⟨x1, rfl, b1, d1⟩ := aG_int g1
  dsimp only at b1 d1
  obtain ⟨m1, m2, m3, m4⟩ := hM
  clear m1 m2 m3 m4
  obtain ⟨g, w⟩ := fMe_ex hH b0 d0
  have q0 : fB K n (p) 157 [fR x0, fI x1] σ := by
    exact ⟨_, _, g, rfl, w, fun j hj => by omega⟩
  exact ⟨p, fun _ => rfl, ⟨(fun q h => by cases h), fun q h => (by cases h), (fun f h => by cases h), (aAllc ⟨_, rfl, (fF_b (r := 2514) (by decide) rfl).mpr q0⟩ (fun f h => by cases h))⟩, [], List.mem_cons_self, fun f h => (by cases h)⟩
set_option maxRecDepth 8192 in
theorem rw_ruPWn {K : Nat → Nat} {n : Nat} : aGho (fF K n) fa_T K n (fJX K n) ag_ruPWn := by
  refine aGho_of ⟨rfl, rfl⟩ ?_
  intro p σ ρ hH hX hA hM
  have hG := aAG_of hA.1 (fun i e v he hv => (hA.2 i e v he hv).1)
  clear hA
  obtain ⟨v0, v1, v2, v3, rfl, g0, g1, g2, g3⟩ := fA_4 hG
  clear hG
  obtain ⟨x0, rfl, b0, d0⟩ := fG_ref (by decide) g0
  obtain ⟨x1, rfl, b1, d1⟩ := aG_int g1
  dsimp only at b1 d1
  obtain ⟨x2, rfl, b2, d2⟩ := aG_int g2
  dsimp only at b2 d2
  obtain ⟨x3, rfl, b3, d3⟩ := aG_int g3
  dsimp only at b3 d3
  obtain ⟨m1, m2, m3, m4⟩ := hM
  have l0 : 0 ≤ (1 * x2.toInt + (-1 * x1.toInt + 0)) + -1 := by
    obtain ⟨z, e6, e7⟩ := m3 ([(2, 1), (1, -1)], -1) (List.mem_of_getElem? (i := 0) rfl)
    obtain rfl : (1 * x2.toInt + (-1 * x1.toInt + 0)) = z := Option.some.inj (show some (1 * x2.toInt + (-1 * x1.toInt + 0)) = some z from e6)
    exact e7
  have l1 : 0 ≤ (-1 * x2.toInt + (1 * x1.toInt + 0)) + 1 := by
    obtain ⟨z, e6, e7⟩ := m3 ([(2, -1), (1, 1)], 1) (List.mem_of_getElem? (i := 1) rfl)
    obtain rfl : (-1 * x2.toInt + (1 * x1.toInt + 0)) = z := Option.some.inj (show some (-1 * x2.toInt + (1 * x1.toInt + 0)) = some z from e6)
    exact e7
  have f0 : fB K n p 130 [fR x0, fI x1, fI x3] σ := by
    obtain ⟨w, e6, e7⟩ := m4 (2083, [0, 1, 3]) (List.mem_of_getElem? (i := 0) rfl)
    obtain rfl : [fR x0, fI x1, fI x3] = w := Option.some.inj (show some [fR x0, fI x1, fI x3] = some w from e6)
    exact (fF_b (r := 2083) (by decide) rfl).mp e7
  clear m1 m2 m3 m4
  obtain ⟨g, w, l⟩ := f130c f0
  have q0 : fB K n (p) 157 [fR x0, fI x2] σ := by
    exact ⟨_, _, g, rfl, w, fun j hj => l j (by omega)⟩
  exact ⟨p, fun _ => rfl, ⟨(fun q h => by cases h), fun q h => (by cases h), (fun f h => by cases h), (aAllc ⟨_, rfl, (fF_b (r := 2514) (by decide) rfl).mpr q0⟩ (fun f h => by cases h))⟩, [], List.mem_cons_self, fun f h => (by cases h)⟩
set_option maxRecDepth 8192 in
theorem rw_ruMQ {K : Nat → Nat} {n : Nat} : aGho (fF K n) fa_T K n (fJX K n) ag_ruMQ := by
  refine aGho_of ⟨rfl, rfl⟩ ?_
  intro p σ ρ hH hX hA hM
  have hG := aAG_of hA.1 (fun i e v he hv => (hA.2 i e v he hv).1)
  clear hA
  obtain ⟨v0, v1, v2, v3, rfl, g0, g1, g2, g3⟩ := fA_4 hG
  clear hG
  obtain ⟨x0, rfl, b0, d0⟩ := fG_ref (by decide) g0
  obtain ⟨x1, rfl, b1, d1⟩ := aG_int g1
  dsimp only at b1 d1
  obtain ⟨x2, rfl, b2, d2⟩ := aG_int g2
  dsimp only at b2 d2
  obtain ⟨x3, rfl, b3, d3⟩ := fG_ref (by decide) g3
  obtain ⟨m1, m2, m3, m4⟩ := hM
  obtain ⟨a0, c0, fs0, w0, e1, s0, t0, e4⟩ := m1 (0, 0, 3) (List.mem_of_getElem? (i := 0) rfl)
  obtain rfl : x0 = a0 := Sum.inl.inj (Option.some.inj (Sum.inr.inj (Sum.inr.inj (Option.some.inj (show some (fR x0) = some _ from e1)))))
  obtain rfl : fR x3 = w0 := Option.some.inj (show some (fR x3) = some w0 from e4)
  clear e1 e4
  obtain ⟨a, mc0, ty0, gc0, ic0, e1, sc0, jc0, e4, e5⟩ := m2 (3, ([(1, 1)], 56), 2) (List.mem_of_getElem? (i := 0) rfl)
  obtain rfl : x3 = a := Sum.inl.inj (Option.some.inj (Sum.inr.inj (Sum.inr.inj (Option.some.inj (show some (fR x3) = some _ from e1)))))
  obtain ⟨gc0, rfl⟩ : ∃ g, gc0 = .inl g := by
    rcases gc0 with g | g
    · exact ⟨g, rfl⟩
    · exact absurd (show some (fI x2) = some (.inr (.inl (g ic0))) from e5) (fun h => by cases h)
  have sc0 : σ x3 = .inl (ty0, mc0, .inl gc0) := sc0
  have ec0 : x2 = gc0 ic0 := Sum.inl.inj (Option.some.inj (show some (fI x2) = some _ from e5))
  have kc0 : (ic0 : Int) = (1 * x1.toInt + 0) + 56 := by
    obtain ⟨z, e6, e7⟩ := e4
    obtain rfl : (1 * x1.toInt + 0) = z := Option.some.inj (show some (1 * x1.toInt + 0) = some z from e6)
    exact e7
  clear e1 e4 e5
  clear m1 m2 m3 m4
  obtain ⟨g, w, e⟩ := fMe_mk hH b0 d0 s0 t0 b3 d3
  rw [sc0] at e
  cases e
  have q0 : fB K n (p) 130 [fR x0, fI x1, fI x2, fI x2] σ := by
    exact ⟨_, _, gc0, w, Or.inr (Or.inr ⟨_, _, rfl, by rw [ec0, show 56 + x1.toInt.toNat = ic0 by omega]⟩)⟩
  exact ⟨p, fun _ => rfl, ⟨(fun q h => by cases h), fun q h => (by cases h), (fun f h => by cases h), (aAllc ⟨_, rfl, (fF_b (r := 2084) (by decide) rfl).mpr q0⟩ (fun f h => by cases h))⟩, [], List.mem_cons_self, fun f h => (by cases h)⟩
set_option maxRecDepth 8192 in
theorem rw_ruPA0 {K : Nat → Nat} {n : Nat} : aGho (fF K n) fa_T K n (fJX K n) ag_ruPA0 := by
  refine aGho_of ⟨rfl, rfl⟩ ?_
  intro p σ ρ hH hX hA hM
  have hG := aAG_of hA.1 (fun i e v he hv => (hA.2 i e v he hv).1)
  clear hA
  obtain ⟨v0, v1, v2, v3, v4, rfl, g0, g1, g2, g3, g4⟩ := fA_5 hG
  clear hG
  obtain ⟨x0, rfl, b0, d0⟩ := fG_ref (by decide) g0
  obtain ⟨x1, rfl, b1, d1⟩ := aG_int g1
  dsimp only at b1 d1
  obtain ⟨x2, rfl, b2, d2⟩ := aG_int g2
  dsimp only at b2 d2
  obtain ⟨x3, rfl, b3, d3⟩ := aG_int g3
  dsimp only at b3 d3
  obtain ⟨x4, rfl, b4, d4⟩ := aG_int g4
  dsimp only at b4 d4
  obtain ⟨m1, m2, m3, m4⟩ := hM
  have l0 : 0 ≤ (1 * x3.toInt + (-8 * x4.toInt + (-1 * x2.toInt + 0))) + 0 := by
    obtain ⟨z, e6, e7⟩ := m3 ([(3, 1), (4, -8), (2, -1)], 0) (List.mem_of_getElem? (i := 0) rfl)
    obtain rfl : (1 * x3.toInt + (-8 * x4.toInt + (-1 * x2.toInt + 0))) = z := Option.some.inj (show some (1 * x3.toInt + (-8 * x4.toInt + (-1 * x2.toInt + 0))) = some z from e6)
    exact e7
  have l1 : 0 ≤ (-1 * x3.toInt + (8 * x4.toInt + (1 * x2.toInt + 0))) + 0 := by
    obtain ⟨z, e6, e7⟩ := m3 ([(3, -1), (4, 8), (2, 1)], 0) (List.mem_of_getElem? (i := 1) rfl)
    obtain rfl : (-1 * x3.toInt + (8 * x4.toInt + (1 * x2.toInt + 0))) = z := Option.some.inj (show some (-1 * x3.toInt + (8 * x4.toInt + (1 * x2.toInt + 0))) = some z from e6)
    exact e7
  have l2 : 0 ≤ (-1 * x2.toInt + 0) + 0 := by
    obtain ⟨z, e6, e7⟩ := m3 ([(2, -1)], 0) (List.mem_of_getElem? (i := 2) rfl)
    obtain rfl : (-1 * x2.toInt + 0) = z := Option.some.inj (show some (-1 * x2.toInt + 0) = some z from e6)
    exact e7
  have f0 : fB K n p 157 [fR x0, fI x1] σ := by
    obtain ⟨w, e6, e7⟩ := m4 (2514, [0, 1]) (List.mem_of_getElem? (i := 0) rfl)
    obtain rfl : [fR x0, fI x1] = w := Option.some.inj (show some [fR x0, fI x1] = some w from e6)
    exact (fF_b (r := 2514) (by decide) rfl).mp e7
  have f1 : fB K n p 146 [fR x0, fI x1, fI x3] σ := by
    obtain ⟨w, e6, e7⟩ := m4 (2339, [0, 1, 3]) (List.mem_of_getElem? (i := 1) rfl)
    obtain rfl : [fR x0, fI x1, fI x3] = w := Option.some.inj (show some [fR x0, fI x1, fI x3] = some w from e6)
    exact (fF_b (r := 2339) (by decide) rfl).mp e7
  clear m1 m2 m3 m4
  obtain ⟨b8, i8, g8, e8, w8, l8⟩ := f0
  cases e8
  obtain ⟨b9, s9, v9, g9, e9, w9, l9⟩ := f1
  cases e9
  obtain rfl := fMe_u w8 w9
  have q0 : fB K n (p) 130 [fR x0, fI x1] σ := by
    exact ⟨_, _, g8, w8, Or.inl ⟨rfl, l8, by unfold fNp; rw [l9]; omega⟩⟩
  exact ⟨p, fun _ => rfl, ⟨(fun q h => by cases h), fun q h => (by cases h), (fun f h => by cases h), (aAllc ⟨_, rfl, (fF_b (r := 2082) (by decide) rfl).mpr q0⟩ (fun f h => by cases h))⟩, [], List.mem_cons_self, fun f h => (by cases h)⟩
set_option maxRecDepth 8192 in
theorem rw_ruPB0 {K : Nat → Nat} {n : Nat} : aGho (fF K n) fa_T K n (fJX K n) ag_ruPB0 := by
  refine aGho_of ⟨rfl, rfl⟩ ?_
  intro p σ ρ hH hX hA hM
  have hG := aAG_of hA.1 (fun i e v he hv => (hA.2 i e v he hv).1)
  clear hA
  obtain ⟨v0, v1, v2, v3, v4, v5, rfl, g0, g1, g2, g3, g4, g5⟩ := fA_6 hG
  clear hG
  obtain ⟨x0, rfl, b0, d0⟩ := fG_ref (by decide) g0
  obtain ⟨x1, rfl, b1, d1⟩ := aG_int g1
  dsimp only at b1 d1
  obtain ⟨x2, rfl, b2, d2⟩ := aG_int g2
  dsimp only at b2 d2
  obtain ⟨x3, rfl, b3, d3⟩ := aG_int g3
  dsimp only at b3 d3
  obtain ⟨x4, rfl, b4, d4⟩ := aG_int g4
  dsimp only at b4 d4
  obtain ⟨x5, rfl, b5, d5⟩ := aG_int g5
  dsimp only at b5 d5
  obtain ⟨m1, m2, m3, m4⟩ := hM
  have l0 : 0 ≤ (1 * x3.toInt + (-8 * x4.toInt + (-1 * x2.toInt + 0))) + 0 := by
    obtain ⟨z, e6, e7⟩ := m3 ([(3, 1), (4, -8), (2, -1)], 0) (List.mem_of_getElem? (i := 0) rfl)
    obtain rfl : (1 * x3.toInt + (-8 * x4.toInt + (-1 * x2.toInt + 0))) = z := Option.some.inj (show some (1 * x3.toInt + (-8 * x4.toInt + (-1 * x2.toInt + 0))) = some z from e6)
    exact e7
  have l1 : 0 ≤ (-1 * x3.toInt + (8 * x4.toInt + (1 * x2.toInt + 0))) + 0 := by
    obtain ⟨z, e6, e7⟩ := m3 ([(3, -1), (4, 8), (2, 1)], 0) (List.mem_of_getElem? (i := 1) rfl)
    obtain rfl : (-1 * x3.toInt + (8 * x4.toInt + (1 * x2.toInt + 0))) = z := Option.some.inj (show some (-1 * x3.toInt + (8 * x4.toInt + (1 * x2.toInt + 0))) = some z from e6)
    exact e7
  have l2 : 0 ≤ (-1 * x2.toInt + 0) + 0 := by
    obtain ⟨z, e6, e7⟩ := m3 ([(2, -1)], 0) (List.mem_of_getElem? (i := 2) rfl)
    obtain rfl : (-1 * x2.toInt + 0) = z := Option.some.inj (show some (-1 * x2.toInt + 0) = some z from e6)
    exact e7
  have f0 : fB K n p 130 [fR x0, fI x1] σ := by
    obtain ⟨w, e6, e7⟩ := m4 (2082, [0, 1]) (List.mem_of_getElem? (i := 0) rfl)
    obtain rfl : [fR x0, fI x1] = w := Option.some.inj (show some [fR x0, fI x1] = some w from e6)
    exact (fF_b (r := 2082) (by decide) rfl).mp e7
  have f1 : fB K n p 130 [fR x0, fI x1, fI x3, fI x3] σ := by
    obtain ⟨w, e6, e7⟩ := m4 (2084, [0, 1, 3, 3]) (List.mem_of_getElem? (i := 1) rfl)
    obtain rfl : [fR x0, fI x1, fI x3, fI x3] = w := Option.some.inj (show some [fR x0, fI x1, fI x3, fI x3] = some w from e6)
    exact (fF_b (r := 2084) (by decide) rfl).mp e7
  clear m1 m2 m3 m4
  obtain ⟨g8, w8, l8, n8⟩ := f130b f0
  obtain ⟨g9, w9, l9⟩ := f130d f1
  obtain rfl := fMe_u w8 w9
  have q0 : fB K n (p) 130 [fR x0, fI x1, fI x5] σ := by
    refine ⟨_, _, g8, w8, Or.inr (Or.inl ⟨_, rfl, fun j hj => ?_⟩)⟩
    by_cases c : (j : Int) < x1.toInt
    · exact l8 j c
    · obtain rfl : j = x1.toInt.toNat := by omega
      exact ⟨n8, by unfold fNp; rw [l9]; omega⟩
  exact ⟨p, fun _ => rfl, ⟨(fun q h => by cases h), fun q h => (by cases h), (fun f h => by cases h), (aAllc ⟨_, rfl, (fF_b (r := 2083) (by decide) rfl).mpr q0⟩ (fun f h => by cases h))⟩, [], List.mem_cons_self, fun f h => (by cases h)⟩
set_option maxRecDepth 8192 in
theorem rw_ruPA2 {K : Nat → Nat} {n : Nat} : aGho (fF K n) fa_T K n (fJX K n) ag_ruPA2 := by
  refine aGho_of ⟨rfl, rfl⟩ ?_
  intro p σ ρ hH hX hA hM
  have hG := aAG_of hA.1 (fun i e v he hv => (hA.2 i e v he hv).1)
  clear hA
  obtain ⟨v0, v1, v2, v3, v4, rfl, g0, g1, g2, g3, g4⟩ := fA_5 hG
  clear hG
  obtain ⟨x0, rfl, b0, d0⟩ := fG_ref (by decide) g0
  obtain ⟨x1, rfl, b1, d1⟩ := aG_int g1
  dsimp only at b1 d1
  obtain ⟨x2, rfl, b2, d2⟩ := aG_int g2
  dsimp only at b2 d2
  obtain ⟨x3, rfl, b3, d3⟩ := aG_int g3
  dsimp only at b3 d3
  obtain ⟨x4, rfl, b4, d4⟩ := aG_int g4
  dsimp only at b4 d4
  obtain ⟨m1, m2, m3, m4⟩ := hM
  have l0 : 0 ≤ (1 * x3.toInt + (-8 * x4.toInt + (-1 * x2.toInt + 0))) + 0 := by
    obtain ⟨z, e6, e7⟩ := m3 ([(3, 1), (4, -8), (2, -1)], 0) (List.mem_of_getElem? (i := 0) rfl)
    obtain rfl : (1 * x3.toInt + (-8 * x4.toInt + (-1 * x2.toInt + 0))) = z := Option.some.inj (show some (1 * x3.toInt + (-8 * x4.toInt + (-1 * x2.toInt + 0))) = some z from e6)
    exact e7
  have l1 : 0 ≤ (-1 * x3.toInt + (8 * x4.toInt + (1 * x2.toInt + 0))) + 0 := by
    obtain ⟨z, e6, e7⟩ := m3 ([(3, -1), (4, 8), (2, 1)], 0) (List.mem_of_getElem? (i := 1) rfl)
    obtain rfl : (-1 * x3.toInt + (8 * x4.toInt + (1 * x2.toInt + 0))) = z := Option.some.inj (show some (-1 * x3.toInt + (8 * x4.toInt + (1 * x2.toInt + 0))) = some z from e6)
    exact e7
  have l2 : 0 ≤ (1 * x2.toInt + 0) + -2 := by
    obtain ⟨z, e6, e7⟩ := m3 ([(2, 1)], -2) (List.mem_of_getElem? (i := 2) rfl)
    obtain rfl : (1 * x2.toInt + 0) = z := Option.some.inj (show some (1 * x2.toInt + 0) = some z from e6)
    exact e7
  have f0 : fB K n p 157 [fR x0, fI x1] σ := by
    obtain ⟨w, e6, e7⟩ := m4 (2514, [0, 1]) (List.mem_of_getElem? (i := 0) rfl)
    obtain rfl : [fR x0, fI x1] = w := Option.some.inj (show some [fR x0, fI x1] = some w from e6)
    exact (fF_b (r := 2514) (by decide) rfl).mp e7
  have f1 : fB K n p 146 [fR x0, fI x1, fI x3] σ := by
    obtain ⟨w, e6, e7⟩ := m4 (2339, [0, 1, 3]) (List.mem_of_getElem? (i := 1) rfl)
    obtain rfl : [fR x0, fI x1, fI x3] = w := Option.some.inj (show some [fR x0, fI x1, fI x3] = some w from e6)
    exact (fF_b (r := 2339) (by decide) rfl).mp e7
  clear m1 m2 m3 m4
  obtain ⟨b8, i8, g8, e8, w8, l8⟩ := f0
  cases e8
  obtain ⟨b9, s9, v9, g9, e9, w9, l9⟩ := f1
  cases e9
  obtain rfl := fMe_u w8 w9
  have q0 : fB K n (p) 130 [fR x0, fI x1] σ := by
    exact ⟨_, _, g8, w8, Or.inl ⟨rfl, l8, by unfold fNp; rw [l9]; omega⟩⟩
  exact ⟨p, fun _ => rfl, ⟨(fun q h => by cases h), fun q h => (by cases h), (fun f h => by cases h), (aAllc ⟨_, rfl, (fF_b (r := 2082) (by decide) rfl).mpr q0⟩ (fun f h => by cases h))⟩, [], List.mem_cons_self, fun f h => (by cases h)⟩
set_option maxRecDepth 8192 in
theorem rw_ruPB2 {K : Nat → Nat} {n : Nat} : aGho (fF K n) fa_T K n (fJX K n) ag_ruPB2 := by
  refine aGho_of ⟨rfl, rfl⟩ ?_
  intro p σ ρ hH hX hA hM
  have hG := aAG_of hA.1 (fun i e v he hv => (hA.2 i e v he hv).1)
  clear hA
  obtain ⟨v0, v1, v2, v3, v4, v5, rfl, g0, g1, g2, g3, g4, g5⟩ := fA_6 hG
  clear hG
  obtain ⟨x0, rfl, b0, d0⟩ := fG_ref (by decide) g0
  obtain ⟨x1, rfl, b1, d1⟩ := aG_int g1
  dsimp only at b1 d1
  obtain ⟨x2, rfl, b2, d2⟩ := aG_int g2
  dsimp only at b2 d2
  obtain ⟨x3, rfl, b3, d3⟩ := aG_int g3
  dsimp only at b3 d3
  obtain ⟨x4, rfl, b4, d4⟩ := aG_int g4
  dsimp only at b4 d4
  obtain ⟨x5, rfl, b5, d5⟩ := aG_int g5
  dsimp only at b5 d5
  obtain ⟨m1, m2, m3, m4⟩ := hM
  have l0 : 0 ≤ (1 * x3.toInt + (-8 * x4.toInt + (-1 * x2.toInt + 0))) + 0 := by
    obtain ⟨z, e6, e7⟩ := m3 ([(3, 1), (4, -8), (2, -1)], 0) (List.mem_of_getElem? (i := 0) rfl)
    obtain rfl : (1 * x3.toInt + (-8 * x4.toInt + (-1 * x2.toInt + 0))) = z := Option.some.inj (show some (1 * x3.toInt + (-8 * x4.toInt + (-1 * x2.toInt + 0))) = some z from e6)
    exact e7
  have l1 : 0 ≤ (-1 * x3.toInt + (8 * x4.toInt + (1 * x2.toInt + 0))) + 0 := by
    obtain ⟨z, e6, e7⟩ := m3 ([(3, -1), (4, 8), (2, 1)], 0) (List.mem_of_getElem? (i := 1) rfl)
    obtain rfl : (-1 * x3.toInt + (8 * x4.toInt + (1 * x2.toInt + 0))) = z := Option.some.inj (show some (-1 * x3.toInt + (8 * x4.toInt + (1 * x2.toInt + 0))) = some z from e6)
    exact e7
  have l2 : 0 ≤ (1 * x2.toInt + 0) + -2 := by
    obtain ⟨z, e6, e7⟩ := m3 ([(2, 1)], -2) (List.mem_of_getElem? (i := 2) rfl)
    obtain rfl : (1 * x2.toInt + 0) = z := Option.some.inj (show some (1 * x2.toInt + 0) = some z from e6)
    exact e7
  have f0 : fB K n p 130 [fR x0, fI x1] σ := by
    obtain ⟨w, e6, e7⟩ := m4 (2082, [0, 1]) (List.mem_of_getElem? (i := 0) rfl)
    obtain rfl : [fR x0, fI x1] = w := Option.some.inj (show some [fR x0, fI x1] = some w from e6)
    exact (fF_b (r := 2082) (by decide) rfl).mp e7
  have f1 : fB K n p 130 [fR x0, fI x1, fI x3, fI x3] σ := by
    obtain ⟨w, e6, e7⟩ := m4 (2084, [0, 1, 3, 3]) (List.mem_of_getElem? (i := 1) rfl)
    obtain rfl : [fR x0, fI x1, fI x3, fI x3] = w := Option.some.inj (show some [fR x0, fI x1, fI x3, fI x3] = some w from e6)
    exact (fF_b (r := 2084) (by decide) rfl).mp e7
  clear m1 m2 m3 m4
  obtain ⟨g8, w8, l8, n8⟩ := f130b f0
  obtain ⟨g9, w9, l9⟩ := f130d f1
  obtain rfl := fMe_u w8 w9
  have q0 : fB K n (p) 130 [fR x0, fI x1, fI x5] σ := by
    refine ⟨_, _, g8, w8, Or.inr (Or.inl ⟨_, rfl, fun j hj => ?_⟩)⟩
    by_cases c : (j : Int) < x1.toInt
    · exact l8 j c
    · obtain rfl : j = x1.toInt.toNat := by omega
      exact ⟨n8, by unfold fNp; rw [l9]; omega⟩
  exact ⟨p, fun _ => rfl, ⟨(fun q h => by cases h), fun q h => (by cases h), (fun f h => by cases h), (aAllc ⟨_, rfl, (fF_b (r := 2083) (by decide) rfl).mpr q0⟩ (fun f h => by cases h))⟩, [], List.mem_cons_self, fun f h => (by cases h)⟩
set_option maxRecDepth 8192 in
theorem rw_ruMC1 {K : Nat → Nat} {n : Nat} : aGho (fF K n) fa_T K n (fJX K n) ag_ruMC1 := by
  refine aGho_of ⟨rfl, rfl⟩ ?_
  intro p σ ρ hH hX hA hM
  have hG := aAG_of hA.1 (fun i e v he hv => (hA.2 i e v he hv).1)
  clear hA
  obtain ⟨v0, v1, v2, v3, rfl, g0, g1, g2, g3⟩ := fA_4 hG
  clear hG
  obtain ⟨x0, rfl, b0, d0⟩ := fG_ref (by decide) g0
  obtain ⟨x1, rfl, b1, d1⟩ := aG_int g1
  dsimp only at b1 d1
  obtain ⟨x2, rfl, b2, d2⟩ := aG_int g2
  dsimp only at b2 d2
  obtain ⟨x3, rfl, b3, d3⟩ := fG_ref (by decide) g3
  obtain ⟨m1, m2, m3, m4⟩ := hM
  obtain ⟨a0, c0, fs0, w0, e1, s0, t0, e4⟩ := m1 (0, 0, 3) (List.mem_of_getElem? (i := 0) rfl)
  obtain rfl : x0 = a0 := Sum.inl.inj (Option.some.inj (Sum.inr.inj (Sum.inr.inj (Option.some.inj (show some (fR x0) = some _ from e1)))))
  obtain rfl : fR x3 = w0 := Option.some.inj (show some (fR x3) = some w0 from e4)
  clear e1 e4
  obtain ⟨a, mc0, ty0, gc0, ic0, e1, sc0, jc0, e4, e5⟩ := m2 (3, ([(1, 1)], 0), 2) (List.mem_of_getElem? (i := 0) rfl)
  obtain rfl : x3 = a := Sum.inl.inj (Option.some.inj (Sum.inr.inj (Sum.inr.inj (Option.some.inj (show some (fR x3) = some _ from e1)))))
  obtain ⟨gc0, rfl⟩ : ∃ g, gc0 = .inl g := by
    rcases gc0 with g | g
    · exact ⟨g, rfl⟩
    · exact absurd (show some (fI x2) = some (.inr (.inl (g ic0))) from e5) (fun h => by cases h)
  have sc0 : σ x3 = .inl (ty0, mc0, .inl gc0) := sc0
  have ec0 : x2 = gc0 ic0 := Sum.inl.inj (Option.some.inj (show some (fI x2) = some _ from e5))
  have kc0 : (ic0 : Int) = (1 * x1.toInt + 0) + 0 := by
    obtain ⟨z, e6, e7⟩ := e4
    obtain rfl : (1 * x1.toInt + 0) = z := Option.some.inj (show some (1 * x1.toInt + 0) = some z from e6)
    exact e7
  clear e1 e4 e5
  obtain rfl : ic0 = x1.toInt.toNat := by omega
  clear m1 m2 m3 m4
  obtain ⟨g, w, e⟩ := fMe_mk hH b0 d0 s0 t0 b3 d3
  rw [sc0] at e
  cases e
  have q0 : fB K n (p) 146 [fR x0, fI x1, fI x2] σ := by
    exact ⟨_, _, _, gc0, rfl, w, ec0.symm⟩
  exact ⟨p, fun _ => rfl, ⟨(fun q h => by cases h), fun q h => (by cases h), (fun f h => by cases h), (aAllc ⟨_, rfl, (fF_b (r := 2339) (by decide) rfl).mpr q0⟩ (fun f h => by cases h))⟩, [], List.mem_cons_self, fun f h => (by cases h)⟩
set_option maxRecDepth 8192 in
theorem rw_ruMC2 {K : Nat → Nat} {n : Nat} : aGho (fF K n) fa_T K n (fJX K n) ag_ruMC2 := by
  refine aGho_of ⟨rfl, rfl⟩ ?_
  intro p σ ρ hH hX hA hM
  have hG := aAG_of hA.1 (fun i e v he hv => (hA.2 i e v he hv).1)
  clear hA
  obtain ⟨v0, v1, v2, v3, rfl, g0, g1, g2, g3⟩ := fA_4 hG
  clear hG
  obtain ⟨x0, rfl, b0, d0⟩ := fG_ref (by decide) g0
  obtain ⟨x1, rfl, b1, d1⟩ := aG_int g1
  dsimp only at b1 d1
  obtain ⟨x2, rfl, b2, d2⟩ := aG_int g2
  dsimp only at b2 d2
  obtain ⟨x3, rfl, b3, d3⟩ := fG_ref (by decide) g3
  obtain ⟨m1, m2, m3, m4⟩ := hM
  obtain ⟨a0, c0, fs0, w0, e1, s0, t0, e4⟩ := m1 (0, 0, 3) (List.mem_of_getElem? (i := 0) rfl)
  obtain rfl : x0 = a0 := Sum.inl.inj (Option.some.inj (Sum.inr.inj (Sum.inr.inj (Option.some.inj (show some (fR x0) = some _ from e1)))))
  obtain rfl : fR x3 = w0 := Option.some.inj (show some (fR x3) = some w0 from e4)
  clear e1 e4
  obtain ⟨a, mc0, ty0, gc0, ic0, e1, sc0, jc0, e4, e5⟩ := m2 (3, ([(1, 1)], 0), 2) (List.mem_of_getElem? (i := 0) rfl)
  obtain rfl : x3 = a := Sum.inl.inj (Option.some.inj (Sum.inr.inj (Sum.inr.inj (Option.some.inj (show some (fR x3) = some _ from e1)))))
  obtain ⟨gc0, rfl⟩ : ∃ g, gc0 = .inl g := by
    rcases gc0 with g | g
    · exact ⟨g, rfl⟩
    · exact absurd (show some (fI x2) = some (.inr (.inl (g ic0))) from e5) (fun h => by cases h)
  have sc0 : σ x3 = .inl (ty0, mc0, .inl gc0) := sc0
  have ec0 : x2 = gc0 ic0 := Sum.inl.inj (Option.some.inj (show some (fI x2) = some _ from e5))
  have kc0 : (ic0 : Int) = (1 * x1.toInt + 0) + 0 := by
    obtain ⟨z, e6, e7⟩ := e4
    obtain rfl : (1 * x1.toInt + 0) = z := Option.some.inj (show some (1 * x1.toInt + 0) = some z from e6)
    exact e7
  clear e1 e4 e5
  obtain rfl : ic0 = x1.toInt.toNat := by omega
  clear m1 m2 m3 m4
  obtain ⟨g, w, e⟩ := fMe_mk hH b0 d0 s0 t0 b3 d3
  rw [sc0] at e
  cases e
  have q0 : fB K n (p) 147 [fR x0, fI x1, fI x2] σ := by
    exact ⟨_, _, _, gc0, rfl, w, ec0.symm⟩
  exact ⟨p, fun _ => rfl, ⟨(fun q h => by cases h), fun q h => (by cases h), (fun f h => by cases h), (aAllc ⟨_, rfl, (fF_b (r := 2355) (by decide) rfl).mpr q0⟩ (fun f h => by cases h))⟩, [], List.mem_cons_self, fun f h => (by cases h)⟩
set_option maxRecDepth 8192 in
theorem rw_ruBT0 {K : Nat → Nat} {n : Nat} : aGho (fF K n) fa_T K n (fJX K n) ag_ruBT0 := by
  refine aGho_of ⟨rfl, rfl⟩ ?_
  intro p σ ρ hH hX hA hM
  have hG := aAG_of hA.1 (fun i e v he hv => (hA.2 i e v he hv).1)
  clear hA
  obtain ⟨v0, v1, v2, v3, v4, v5, rfl, g0, g1, g2, g3, g4, g5⟩ := fA_6 hG
  clear hG
  obtain ⟨x0, rfl, b0, d0⟩ := aG_int g0
  dsimp only at b0 d0
  obtain ⟨x1, rfl, b1, d1⟩ := aG_int g1
  dsimp only at b1 d1
  obtain ⟨x2, rfl, b2, d2⟩ := aG_int g2
  dsimp only at b2 d2
  obtain ⟨x3, rfl, b3, d3⟩ := aG_int g3
  dsimp only at b3 d3
  obtain ⟨x4, rfl, b4, d4⟩ := fG_ref (by decide) g4
  obtain ⟨x5, rfl, b5, d5⟩ := aG_int g5
  dsimp only at b5 d5
  obtain ⟨m1, m2, m3, m4⟩ := hM
  obtain ⟨a0, c0, fs0, w0, e1, s0, t0, e4⟩ := m1 (4, 3, 5) (List.mem_of_getElem? (i := 0) rfl)
  obtain rfl : x4 = a0 := Sum.inl.inj (Option.some.inj (Sum.inr.inj (Sum.inr.inj (Option.some.inj (show some (fR x4) = some _ from e1)))))
  obtain rfl : fI x5 = w0 := Option.some.inj (show some (fI x5) = some w0 from e4)
  clear e1 e4
  have l0 : 0 ≤ (1 * x1.toInt + (-1 * x2.toInt + (2 * x3.toInt + 0))) + 0 := by
    obtain ⟨z, e6, e7⟩ := m3 ([(1, 1), (2, -1), (3, 2)], 0) (List.mem_of_getElem? (i := 0) rfl)
    obtain rfl : (1 * x1.toInt + (-1 * x2.toInt + (2 * x3.toInt + 0))) = z := Option.some.inj (show some (1 * x1.toInt + (-1 * x2.toInt + (2 * x3.toInt + 0))) = some z from e6)
    exact e7
  have l1 : 0 ≤ (-1 * x1.toInt + (1 * x2.toInt + (-2 * x3.toInt + 0))) + 0 := by
    obtain ⟨z, e6, e7⟩ := m3 ([(1, -1), (2, 1), (3, -2)], 0) (List.mem_of_getElem? (i := 1) rfl)
    obtain rfl : (-1 * x1.toInt + (1 * x2.toInt + (-2 * x3.toInt + 0))) = z := Option.some.inj (show some (-1 * x1.toInt + (1 * x2.toInt + (-2 * x3.toInt + 0))) = some z from e6)
    exact e7
  have l2 : 0 ≤ (1 * x5.toInt + (-1 * x2.toInt + 0)) + 0 := by
    obtain ⟨z, e6, e7⟩ := m3 ([(5, 1), (2, -1)], 0) (List.mem_of_getElem? (i := 2) rfl)
    obtain rfl : (1 * x5.toInt + (-1 * x2.toInt + 0)) = z := Option.some.inj (show some (1 * x5.toInt + (-1 * x2.toInt + 0)) = some z from e6)
    exact e7
  have l3 : 0 ≤ (-1 * x5.toInt + (1 * x2.toInt + 0)) + 0 := by
    obtain ⟨z, e6, e7⟩ := m3 ([(5, -1), (2, 1)], 0) (List.mem_of_getElem? (i := 3) rfl)
    obtain rfl : (-1 * x5.toInt + (1 * x2.toInt + 0)) = z := Option.some.inj (show some (-1 * x5.toInt + (1 * x2.toInt + 0)) = some z from e6)
    exact e7
  clear m1 m2 m3 m4
  have q0 : fB K n (p) 150 [fR x4, fI x1] σ := by
    exact ⟨_, _, x5, rfl, ⟨b4, d4, _, _, s0, t0⟩, by omega⟩
  exact ⟨p, fun _ => rfl, ⟨(fun q h => by cases h), fun q h => (by cases h), (fun f h => by cases h), (aAllc ⟨_, rfl, (fF_b (r := 2402) (by decide) rfl).mpr q0⟩ (fun f h => by cases h))⟩, [], List.mem_cons_self, fun f h => (by cases h)⟩
set_option maxRecDepth 8192 in
theorem rw_ruBT1 {K : Nat → Nat} {n : Nat} : aGho (fF K n) fa_T K n (fJX K n) ag_ruBT1 := by
  refine aGho_of ⟨rfl, rfl⟩ ?_
  intro p σ ρ hH hX hA hM
  have hG := aAG_of hA.1 (fun i e v he hv => (hA.2 i e v he hv).1)
  clear hA
  obtain ⟨v0, v1, v2, v3, v4, v5, rfl, g0, g1, g2, g3, g4, g5⟩ := fA_6 hG
  clear hG
  obtain ⟨x0, rfl, b0, d0⟩ := aG_int g0
  dsimp only at b0 d0
  obtain ⟨x1, rfl, b1, d1⟩ := aG_int g1
  dsimp only at b1 d1
  obtain ⟨x2, rfl, b2, d2⟩ := aG_int g2
  dsimp only at b2 d2
  obtain ⟨x3, rfl, b3, d3⟩ := aG_int g3
  dsimp only at b3 d3
  obtain ⟨x4, rfl, b4, d4⟩ := fG_ref (by decide) g4
  obtain ⟨x5, rfl, b5, d5⟩ := aG_int g5
  dsimp only at b5 d5
  obtain ⟨m1, m2, m3, m4⟩ := hM
  obtain ⟨a0, c0, fs0, w0, e1, s0, t0, e4⟩ := m1 (4, 3, 5) (List.mem_of_getElem? (i := 0) rfl)
  obtain rfl : x4 = a0 := Sum.inl.inj (Option.some.inj (Sum.inr.inj (Sum.inr.inj (Option.some.inj (show some (fR x4) = some _ from e1)))))
  obtain rfl : fI x5 = w0 := Option.some.inj (show some (fI x5) = some w0 from e4)
  clear e1 e4
  have l0 : 0 ≤ (1 * x1.toInt + (-1 * x2.toInt + (2 * x3.toInt + 0))) + 0 := by
    obtain ⟨z, e6, e7⟩ := m3 ([(1, 1), (2, -1), (3, 2)], 0) (List.mem_of_getElem? (i := 0) rfl)
    obtain rfl : (1 * x1.toInt + (-1 * x2.toInt + (2 * x3.toInt + 0))) = z := Option.some.inj (show some (1 * x1.toInt + (-1 * x2.toInt + (2 * x3.toInt + 0))) = some z from e6)
    exact e7
  have l1 : 0 ≤ (-1 * x1.toInt + (1 * x2.toInt + (-2 * x3.toInt + 0))) + 0 := by
    obtain ⟨z, e6, e7⟩ := m3 ([(1, -1), (2, 1), (3, -2)], 0) (List.mem_of_getElem? (i := 1) rfl)
    obtain rfl : (-1 * x1.toInt + (1 * x2.toInt + (-2 * x3.toInt + 0))) = z := Option.some.inj (show some (-1 * x1.toInt + (1 * x2.toInt + (-2 * x3.toInt + 0))) = some z from e6)
    exact e7
  have l2 : 0 ≤ (1 * x5.toInt + (-2 * x2.toInt + 0)) + 0 := by
    obtain ⟨z, e6, e7⟩ := m3 ([(5, 1), (2, -2)], 0) (List.mem_of_getElem? (i := 2) rfl)
    obtain rfl : (1 * x5.toInt + (-2 * x2.toInt + 0)) = z := Option.some.inj (show some (1 * x5.toInt + (-2 * x2.toInt + 0)) = some z from e6)
    exact e7
  have l3 : 0 ≤ (-1 * x5.toInt + (2 * x2.toInt + 0)) + 1 := by
    obtain ⟨z, e6, e7⟩ := m3 ([(5, -1), (2, 2)], 1) (List.mem_of_getElem? (i := 3) rfl)
    obtain rfl : (-1 * x5.toInt + (2 * x2.toInt + 0)) = z := Option.some.inj (show some (-1 * x5.toInt + (2 * x2.toInt + 0)) = some z from e6)
    exact e7
  clear m1 m2 m3 m4
  have q0 : fB K n (p) 151 [fR x4, fI x1] σ := by
    exact ⟨_, _, x5, rfl, ⟨b4, d4, _, _, s0, t0⟩, by omega⟩
  exact ⟨p, fun _ => rfl, ⟨(fun q h => by cases h), fun q h => (by cases h), (fun f h => by cases h), (aAllc ⟨_, rfl, (fF_b (r := 2418) (by decide) rfl).mpr q0⟩ (fun f h => by cases h))⟩, [], List.mem_cons_self, fun f h => (by cases h)⟩
set_option maxRecDepth 8192 in
theorem rw_ruBT2 {K : Nat → Nat} {n : Nat} : aGho (fF K n) fa_T K n (fJX K n) ag_ruBT2 := by
  refine aGho_of ⟨rfl, rfl⟩ ?_
  intro p σ ρ hH hX hA hM
  have hG := aAG_of hA.1 (fun i e v he hv => (hA.2 i e v he hv).1)
  clear hA
  obtain ⟨v0, v1, v2, v3, v4, v5, rfl, g0, g1, g2, g3, g4, g5⟩ := fA_6 hG
  clear hG
  obtain ⟨x0, rfl, b0, d0⟩ := aG_int g0
  dsimp only at b0 d0
  obtain ⟨x1, rfl, b1, d1⟩ := aG_int g1
  dsimp only at b1 d1
  obtain ⟨x2, rfl, b2, d2⟩ := aG_int g2
  dsimp only at b2 d2
  obtain ⟨x3, rfl, b3, d3⟩ := aG_int g3
  dsimp only at b3 d3
  obtain ⟨x4, rfl, b4, d4⟩ := fG_ref (by decide) g4
  obtain ⟨x5, rfl, b5, d5⟩ := aG_int g5
  dsimp only at b5 d5
  obtain ⟨m1, m2, m3, m4⟩ := hM
  obtain ⟨a0, c0, fs0, w0, e1, s0, t0, e4⟩ := m1 (4, 3, 5) (List.mem_of_getElem? (i := 0) rfl)
  obtain rfl : x4 = a0 := Sum.inl.inj (Option.some.inj (Sum.inr.inj (Sum.inr.inj (Option.some.inj (show some (fR x4) = some _ from e1)))))
  obtain rfl : fI x5 = w0 := Option.some.inj (show some (fI x5) = some w0 from e4)
  clear e1 e4
  have l0 : 0 ≤ (1 * x1.toInt + (-1 * x2.toInt + (2 * x3.toInt + 0))) + 0 := by
    obtain ⟨z, e6, e7⟩ := m3 ([(1, 1), (2, -1), (3, 2)], 0) (List.mem_of_getElem? (i := 0) rfl)
    obtain rfl : (1 * x1.toInt + (-1 * x2.toInt + (2 * x3.toInt + 0))) = z := Option.some.inj (show some (1 * x1.toInt + (-1 * x2.toInt + (2 * x3.toInt + 0))) = some z from e6)
    exact e7
  have l1 : 0 ≤ (-1 * x1.toInt + (1 * x2.toInt + (-2 * x3.toInt + 0))) + 0 := by
    obtain ⟨z, e6, e7⟩ := m3 ([(1, -1), (2, 1), (3, -2)], 0) (List.mem_of_getElem? (i := 1) rfl)
    obtain rfl : (-1 * x1.toInt + (1 * x2.toInt + (-2 * x3.toInt + 0))) = z := Option.some.inj (show some (-1 * x1.toInt + (1 * x2.toInt + (-2 * x3.toInt + 0))) = some z from e6)
    exact e7
  have l2 : 0 ≤ (1 * x5.toInt + (-4 * x2.toInt + 0)) + 0 := by
    obtain ⟨z, e6, e7⟩ := m3 ([(5, 1), (2, -4)], 0) (List.mem_of_getElem? (i := 2) rfl)
    obtain rfl : (1 * x5.toInt + (-4 * x2.toInt + 0)) = z := Option.some.inj (show some (1 * x5.toInt + (-4 * x2.toInt + 0)) = some z from e6)
    exact e7
  have l3 : 0 ≤ (-1 * x5.toInt + (4 * x2.toInt + 0)) + 3 := by
    obtain ⟨z, e6, e7⟩ := m3 ([(5, -1), (2, 4)], 3) (List.mem_of_getElem? (i := 3) rfl)
    obtain rfl : (-1 * x5.toInt + (4 * x2.toInt + 0)) = z := Option.some.inj (show some (-1 * x5.toInt + (4 * x2.toInt + 0)) = some z from e6)
    exact e7
  clear m1 m2 m3 m4
  have q0 : fB K n (p) 152 [fR x4, fI x1] σ := by
    exact ⟨_, _, x5, rfl, ⟨b4, d4, _, _, s0, t0⟩, by omega⟩
  exact ⟨p, fun _ => rfl, ⟨(fun q h => by cases h), fun q h => (by cases h), (fun f h => by cases h), (aAllc ⟨_, rfl, (fF_b (r := 2434) (by decide) rfl).mpr q0⟩ (fun f h => by cases h))⟩, [], List.mem_cons_self, fun f h => (by cases h)⟩
set_option maxRecDepth 8192 in
theorem rw_ruBT3 {K : Nat → Nat} {n : Nat} : aGho (fF K n) fa_T K n (fJX K n) ag_ruBT3 := by
  refine aGho_of ⟨rfl, rfl⟩ ?_
  intro p σ ρ hH hX hA hM
  have hG := aAG_of hA.1 (fun i e v he hv => (hA.2 i e v he hv).1)
  clear hA
  obtain ⟨v0, v1, v2, v3, rfl, g0, g1, g2, g3⟩ := fA_4 hG
  clear hG
  obtain ⟨x0, rfl, b0, d0⟩ := aG_int g0
  dsimp only at b0 d0
  obtain ⟨x1, rfl, b1, d1⟩ := aG_int g1
  dsimp only at b1 d1
  obtain ⟨x2, rfl, b2, d2⟩ := fG_ref (by decide) g2
  obtain ⟨x3, rfl, b3, d3⟩ := aG_int g3
  dsimp only at b3 d3
  obtain ⟨m1, m2, m3, m4⟩ := hM
  obtain ⟨a0, c0, fs0, w0, e1, s0, t0, e4⟩ := m1 (2, 3, 3) (List.mem_of_getElem? (i := 0) rfl)
  obtain rfl : x2 = a0 := Sum.inl.inj (Option.some.inj (Sum.inr.inj (Sum.inr.inj (Option.some.inj (show some (fR x2) = some _ from e1)))))
  obtain rfl : fI x3 = w0 := Option.some.inj (show some (fI x3) = some w0 from e4)
  clear e1 e4
  have l0 : 0 ≤ (1 * x3.toInt + (-8 * x1.toInt + 0)) + 0 := by
    obtain ⟨z, e6, e7⟩ := m3 ([(3, 1), (1, -8)], 0) (List.mem_of_getElem? (i := 0) rfl)
    obtain rfl : (1 * x3.toInt + (-8 * x1.toInt + 0)) = z := Option.some.inj (show some (1 * x3.toInt + (-8 * x1.toInt + 0)) = some z from e6)
    exact e7
  have l1 : 0 ≤ (-1 * x3.toInt + (8 * x1.toInt + 0)) + 7 := by
    obtain ⟨z, e6, e7⟩ := m3 ([(3, -1), (1, 8)], 7) (List.mem_of_getElem? (i := 1) rfl)
    obtain rfl : (-1 * x3.toInt + (8 * x1.toInt + 0)) = z := Option.some.inj (show some (-1 * x3.toInt + (8 * x1.toInt + 0)) = some z from e6)
    exact e7
  clear m1 m2 m3 m4
  have q0 : fB K n (p) 153 [fR x2, fI x1] σ := by
    exact ⟨_, _, x3, rfl, ⟨b2, d2, _, _, s0, t0⟩, by omega⟩
  exact ⟨p, fun _ => rfl, ⟨(fun q h => by cases h), fun q h => (by cases h), (fun f h => by cases h), (aAllc ⟨_, rfl, (fF_b (r := 2450) (by decide) rfl).mpr q0⟩ (fun f h => by cases h))⟩, [], List.mem_cons_self, fun f h => (by cases h)⟩
set_option maxRecDepth 8192 in
theorem rw_ruRA0 {K : Nat → Nat} {n : Nat} : aGho (fF K n) fa_T K n (fJX K n) ag_ruRA0 := by
  refine aGho_of ⟨rfl, rfl⟩ ?_
  intro p σ ρ hH hX hA hM
  have hG := aAG_of hA.1 (fun i e v he hv => (hA.2 i e v he hv).1)
  clear hA
  obtain ⟨v0, v1, v2, rfl, g0, g1, g2⟩ := fA_3 hG
  clear hG
  obtain ⟨x0, rfl, b0, d0⟩ := aG_int g0
  dsimp only at b0 d0
  obtain ⟨x1, rfl, b1, d1⟩ := fG_ref (by decide) g1
  obtain ⟨x2, rfl, b2, d2⟩ := aG_int g2
  dsimp only at b2 d2
  obtain ⟨m1, m2, m3, m4⟩ := hM
  have f0 : fB K n p 150 [fR x1, fI x2] σ := by
    obtain ⟨w, e6, e7⟩ := m4 (2402, [1, 2]) (List.mem_of_getElem? (i := 0) rfl)
    obtain rfl : [fR x1, fI x2] = w := Option.some.inj (show some [fR x1, fI x2] = some w from e6)
    exact (fF_b (r := 2402) (by decide) rfl).mp e7
  clear m1 m2 m3 m4
  obtain ⟨b, x, R, e, o, z⟩ := f0
  cases e
  obtain ⟨g, w⟩ := fMe_ex hH b1 d1
  have q0 : fB K n (p) 138 [fR x1] σ := by
    exact ⟨_, g, R, rfl, w, o, fun h => by omega⟩
  exact ⟨p, fun _ => rfl, ⟨(fun q h => by cases h), fun q h => (by cases h), (fun f h => by cases h), (aAllc ⟨_, rfl, (fF_b (r := 2209) (by decide) rfl).mpr q0⟩ (fun f h => by cases h))⟩, [], List.mem_cons_self, fun f h => (by cases h)⟩
set_option maxRecDepth 8192 in
theorem rw_ruRB0 {K : Nat → Nat} {n : Nat} : aGho (fF K n) fa_T K n (fJX K n) ag_ruRB0 := by
  refine aGho_of ⟨rfl, rfl⟩ ?_
  intro p σ ρ hH hX hA hM
  have hG := aAG_of hA.1 (fun i e v he hv => (hA.2 i e v he hv).1)
  clear hA
  obtain ⟨v0, v1, v2, v3, v4, v5, v6, rfl, g0, g1, g2, g3, g4, g5, g6⟩ := fA_7 hG
  clear hG
  obtain ⟨x0, rfl, b0, d0⟩ := aG_int g0
  dsimp only at b0 d0
  obtain ⟨x1, rfl, b1, d1⟩ := fG_ref (by decide) g1
  obtain ⟨x2, rfl, b2, d2⟩ := aG_int g2
  dsimp only at b2 d2
  obtain ⟨x3, rfl, b3, d3⟩ := aG_int g3
  dsimp only at b3 d3
  obtain ⟨x4, rfl, b4, d4⟩ := aG_int g4
  dsimp only at b4 d4
  obtain ⟨x5, rfl, b5, d5⟩ := aG_int g5
  dsimp only at b5 d5
  obtain ⟨x6, rfl, b6, d6⟩ := aG_int g6
  dsimp only at b6 d6
  obtain ⟨m1, m2, m3, m4⟩ := hM
  obtain ⟨a0, c0, fs0, w0, e1, s0, t0, e4⟩ := m1 (1, 3, 6) (List.mem_of_getElem? (i := 0) rfl)
  obtain rfl : x1 = a0 := Sum.inl.inj (Option.some.inj (Sum.inr.inj (Sum.inr.inj (Option.some.inj (show some (fR x1) = some _ from e1)))))
  obtain rfl : fI x6 = w0 := Option.some.inj (show some (fI x6) = some w0 from e4)
  clear e1 e4
  have l0 : 0 ≤ (1 * x2.toInt + 0) + -4 := by
    obtain ⟨z, e6, e7⟩ := m3 ([(2, 1)], -4) (List.mem_of_getElem? (i := 0) rfl)
    obtain rfl : (1 * x2.toInt + 0) = z := Option.some.inj (show some (1 * x2.toInt + 0) = some z from e6)
    exact e7
  have l1 : 0 ≤ (-1 * x2.toInt + 0) + 4 := by
    obtain ⟨z, e6, e7⟩ := m3 ([(2, -1)], 4) (List.mem_of_getElem? (i := 1) rfl)
    obtain rfl : (-1 * x2.toInt + 0) = z := Option.some.inj (show some (-1 * x2.toInt + 0) = some z from e6)
    exact e7
  have l2 : 0 ≤ (1 * x3.toInt + 0) + -6 := by
    obtain ⟨z, e6, e7⟩ := m3 ([(3, 1)], -6) (List.mem_of_getElem? (i := 2) rfl)
    obtain rfl : (1 * x3.toInt + 0) = z := Option.some.inj (show some (1 * x3.toInt + 0) = some z from e6)
    exact e7
  have l3 : 0 ≤ (-1 * x3.toInt + 0) + 6 := by
    obtain ⟨z, e6, e7⟩ := m3 ([(3, -1)], 6) (List.mem_of_getElem? (i := 3) rfl)
    obtain rfl : (-1 * x3.toInt + 0) = z := Option.some.inj (show some (-1 * x3.toInt + 0) = some z from e6)
    exact e7
  have l4 : 0 ≤ (1 * x4.toInt + 0) + -7 := by
    obtain ⟨z, e6, e7⟩ := m3 ([(4, 1)], -7) (List.mem_of_getElem? (i := 4) rfl)
    obtain rfl : (1 * x4.toInt + 0) = z := Option.some.inj (show some (1 * x4.toInt + 0) = some z from e6)
    exact e7
  have l5 : 0 ≤ (-1 * x4.toInt + 0) + 7 := by
    obtain ⟨z, e6, e7⟩ := m3 ([(4, -1)], 7) (List.mem_of_getElem? (i := 5) rfl)
    obtain rfl : (-1 * x4.toInt + 0) = z := Option.some.inj (show some (-1 * x4.toInt + 0) = some z from e6)
    exact e7
  have l6 : 0 ≤ (1 * x5.toInt + 0) + -4 := by
    obtain ⟨z, e6, e7⟩ := m3 ([(5, 1)], -4) (List.mem_of_getElem? (i := 6) rfl)
    obtain rfl : (1 * x5.toInt + 0) = z := Option.some.inj (show some (1 * x5.toInt + 0) = some z from e6)
    exact e7
  have l7 : 0 ≤ (-1 * x5.toInt + 0) + 4 := by
    obtain ⟨z, e6, e7⟩ := m3 ([(5, -1)], 4) (List.mem_of_getElem? (i := 7) rfl)
    obtain rfl : (-1 * x5.toInt + 0) = z := Option.some.inj (show some (-1 * x5.toInt + 0) = some z from e6)
    exact e7
  have f0 : fB K n p 146 [fR x1, fI x2, fI x3] σ := by
    obtain ⟨w, e6, e7⟩ := m4 (2339, [1, 2, 3]) (List.mem_of_getElem? (i := 0) rfl)
    obtain rfl : [fR x1, fI x2, fI x3] = w := Option.some.inj (show some [fR x1, fI x2, fI x3] = some w from e6)
    exact (fF_b (r := 2339) (by decide) rfl).mp e7
  have f1 : fB K n p 147 [fR x1, fI x4, fI x5] σ := by
    obtain ⟨w, e6, e7⟩ := m4 (2355, [1, 4, 5]) (List.mem_of_getElem? (i := 1) rfl)
    obtain rfl : [fR x1, fI x4, fI x5] = w := Option.some.inj (show some [fR x1, fI x4, fI x5] = some w from e6)
    exact (fF_b (r := 2355) (by decide) rfl).mp e7
  clear m1 m2 m3 m4
  obtain ⟨b8, q1, v1, g1, e1, w1, z1⟩ := f0
  cases e1
  obtain ⟨b9, q2, v2, g2, e2, w2, z2⟩ := f1
  cases e2
  obtain rfl := fMe_u w1 w2
  have q0 : fB K n (p) 138 [fR x1] σ := by
    rw [show x2.toInt.toNat = 4 by omega] at z1
    rw [show x4.toInt.toNat = 7 by omega] at z2
    exact ⟨_, g1, x6, rfl, w1, ⟨b1, d1, _, _, s0, t0⟩, fun _ => ⟨by rw [z1]; omega, by rw [z2]; omega⟩⟩
  exact ⟨p, fun _ => rfl, ⟨(fun q h => by cases h), fun q h => (by cases h), (fun f h => by cases h), (aAllc ⟨_, rfl, (fF_b (r := 2209) (by decide) rfl).mpr q0⟩ (fun f h => by cases h))⟩, [], List.mem_cons_self, fun f h => (by cases h)⟩
set_option maxRecDepth 8192 in
theorem rw_ruRA1 {K : Nat → Nat} {n : Nat} : aGho (fF K n) fa_T K n (fJX K n) ag_ruRA1 := by
  refine aGho_of ⟨rfl, rfl⟩ ?_
  intro p σ ρ hH hX hA hM
  have hG := aAG_of hA.1 (fun i e v he hv => (hA.2 i e v he hv).1)
  clear hA
  obtain ⟨v0, v1, v2, rfl, g0, g1, g2⟩ := fA_3 hG
  clear hG
  obtain ⟨x0, rfl, b0, d0⟩ := aG_int g0
  dsimp only at b0 d0
  obtain ⟨x1, rfl, b1, d1⟩ := fG_ref (by decide) g1
  obtain ⟨x2, rfl, b2, d2⟩ := aG_int g2
  dsimp only at b2 d2
  obtain ⟨m1, m2, m3, m4⟩ := hM
  have f0 : fB K n p 151 [fR x1, fI x2] σ := by
    obtain ⟨w, e6, e7⟩ := m4 (2418, [1, 2]) (List.mem_of_getElem? (i := 0) rfl)
    obtain rfl : [fR x1, fI x2] = w := Option.some.inj (show some [fR x1, fI x2] = some w from e6)
    exact (fF_b (r := 2418) (by decide) rfl).mp e7
  clear m1 m2 m3 m4
  obtain ⟨b, x, R, e, o, z⟩ := f0
  cases e
  obtain ⟨g, w⟩ := fMe_ex hH b1 d1
  have q0 : fB K n (p) 139 [fR x1] σ := by
    exact ⟨_, g, R, rfl, w, o, fun h => by omega⟩
  exact ⟨p, fun _ => rfl, ⟨(fun q h => by cases h), fun q h => (by cases h), (fun f h => by cases h), (aAllc ⟨_, rfl, (fF_b (r := 2225) (by decide) rfl).mpr q0⟩ (fun f h => by cases h))⟩, [], List.mem_cons_self, fun f h => (by cases h)⟩
set_option maxRecDepth 8192 in
theorem rw_ruRB1 {K : Nat → Nat} {n : Nat} : aGho (fF K n) fa_T K n (fJX K n) ag_ruRB1 := by
  refine aGho_of ⟨rfl, rfl⟩ ?_
  intro p σ ρ hH hX hA hM
  have hG := aAG_of hA.1 (fun i e v he hv => (hA.2 i e v he hv).1)
  clear hA
  obtain ⟨v0, v1, v2, v3, v4, v5, v6, rfl, g0, g1, g2, g3, g4, g5, g6⟩ := fA_7 hG
  clear hG
  obtain ⟨x0, rfl, b0, d0⟩ := aG_int g0
  dsimp only at b0 d0
  obtain ⟨x1, rfl, b1, d1⟩ := fG_ref (by decide) g1
  obtain ⟨x2, rfl, b2, d2⟩ := aG_int g2
  dsimp only at b2 d2
  obtain ⟨x3, rfl, b3, d3⟩ := aG_int g3
  dsimp only at b3 d3
  obtain ⟨x4, rfl, b4, d4⟩ := aG_int g4
  dsimp only at b4 d4
  obtain ⟨x5, rfl, b5, d5⟩ := aG_int g5
  dsimp only at b5 d5
  obtain ⟨x6, rfl, b6, d6⟩ := aG_int g6
  dsimp only at b6 d6
  obtain ⟨m1, m2, m3, m4⟩ := hM
  obtain ⟨a0, c0, fs0, w0, e1, s0, t0, e4⟩ := m1 (1, 3, 6) (List.mem_of_getElem? (i := 0) rfl)
  obtain rfl : x1 = a0 := Sum.inl.inj (Option.some.inj (Sum.inr.inj (Sum.inr.inj (Option.some.inj (show some (fR x1) = some _ from e1)))))
  obtain rfl : fI x6 = w0 := Option.some.inj (show some (fI x6) = some w0 from e4)
  clear e1 e4
  have l0 : 0 ≤ (1 * x2.toInt + 0) + -4 := by
    obtain ⟨z, e6, e7⟩ := m3 ([(2, 1)], -4) (List.mem_of_getElem? (i := 0) rfl)
    obtain rfl : (1 * x2.toInt + 0) = z := Option.some.inj (show some (1 * x2.toInt + 0) = some z from e6)
    exact e7
  have l1 : 0 ≤ (-1 * x2.toInt + 0) + 4 := by
    obtain ⟨z, e6, e7⟩ := m3 ([(2, -1)], 4) (List.mem_of_getElem? (i := 1) rfl)
    obtain rfl : (-1 * x2.toInt + 0) = z := Option.some.inj (show some (-1 * x2.toInt + 0) = some z from e6)
    exact e7
  have l2 : 0 ≤ (1 * x3.toInt + 0) + -6 := by
    obtain ⟨z, e6, e7⟩ := m3 ([(3, 1)], -6) (List.mem_of_getElem? (i := 2) rfl)
    obtain rfl : (1 * x3.toInt + 0) = z := Option.some.inj (show some (1 * x3.toInt + 0) = some z from e6)
    exact e7
  have l3 : 0 ≤ (-1 * x3.toInt + 0) + 6 := by
    obtain ⟨z, e6, e7⟩ := m3 ([(3, -1)], 6) (List.mem_of_getElem? (i := 3) rfl)
    obtain rfl : (-1 * x3.toInt + 0) = z := Option.some.inj (show some (-1 * x3.toInt + 0) = some z from e6)
    exact e7
  have l4 : 0 ≤ (1 * x4.toInt + 0) + 0 := by
    obtain ⟨z, e6, e7⟩ := m3 ([(4, 1)], 0) (List.mem_of_getElem? (i := 4) rfl)
    obtain rfl : (1 * x4.toInt + 0) = z := Option.some.inj (show some (1 * x4.toInt + 0) = some z from e6)
    exact e7
  have l5 : 0 ≤ (-1 * x4.toInt + 0) + 0 := by
    obtain ⟨z, e6, e7⟩ := m3 ([(4, -1)], 0) (List.mem_of_getElem? (i := 5) rfl)
    obtain rfl : (-1 * x4.toInt + 0) = z := Option.some.inj (show some (-1 * x4.toInt + 0) = some z from e6)
    exact e7
  have l6 : 0 ≤ (1 * x5.toInt + 0) + -4 := by
    obtain ⟨z, e6, e7⟩ := m3 ([(5, 1)], -4) (List.mem_of_getElem? (i := 6) rfl)
    obtain rfl : (1 * x5.toInt + 0) = z := Option.some.inj (show some (1 * x5.toInt + 0) = some z from e6)
    exact e7
  have l7 : 0 ≤ (-1 * x5.toInt + 0) + 4 := by
    obtain ⟨z, e6, e7⟩ := m3 ([(5, -1)], 4) (List.mem_of_getElem? (i := 7) rfl)
    obtain rfl : (-1 * x5.toInt + 0) = z := Option.some.inj (show some (-1 * x5.toInt + 0) = some z from e6)
    exact e7
  have f0 : fB K n p 146 [fR x1, fI x2, fI x3] σ := by
    obtain ⟨w, e6, e7⟩ := m4 (2339, [1, 2, 3]) (List.mem_of_getElem? (i := 0) rfl)
    obtain rfl : [fR x1, fI x2, fI x3] = w := Option.some.inj (show some [fR x1, fI x2, fI x3] = some w from e6)
    exact (fF_b (r := 2339) (by decide) rfl).mp e7
  have f1 : fB K n p 147 [fR x1, fI x4, fI x5] σ := by
    obtain ⟨w, e6, e7⟩ := m4 (2355, [1, 4, 5]) (List.mem_of_getElem? (i := 1) rfl)
    obtain rfl : [fR x1, fI x4, fI x5] = w := Option.some.inj (show some [fR x1, fI x4, fI x5] = some w from e6)
    exact (fF_b (r := 2355) (by decide) rfl).mp e7
  clear m1 m2 m3 m4
  obtain ⟨b8, q1, v1, g1, e1, w1, z1⟩ := f0
  cases e1
  obtain ⟨b9, q2, v2, g2, e2, w2, z2⟩ := f1
  cases e2
  obtain rfl := fMe_u w1 w2
  have q0 : fB K n (p) 139 [fR x1] σ := by
    rw [show x2.toInt.toNat = 4 by omega] at z1
    rw [show x4.toInt.toNat = 0 by omega] at z2
    exact ⟨_, g1, x6, rfl, w1, ⟨b1, d1, _, _, s0, t0⟩, fun _ => ⟨by rw [z1]; omega, by rw [z2]; omega⟩⟩
  exact ⟨p, fun _ => rfl, ⟨(fun q h => by cases h), fun q h => (by cases h), (fun f h => by cases h), (aAllc ⟨_, rfl, (fF_b (r := 2225) (by decide) rfl).mpr q0⟩ (fun f h => by cases h))⟩, [], List.mem_cons_self, fun f h => (by cases h)⟩
set_option maxRecDepth 8192 in
theorem rw_ruRA2 {K : Nat → Nat} {n : Nat} : aGho (fF K n) fa_T K n (fJX K n) ag_ruRA2 := by
  refine aGho_of ⟨rfl, rfl⟩ ?_
  intro p σ ρ hH hX hA hM
  have hG := aAG_of hA.1 (fun i e v he hv => (hA.2 i e v he hv).1)
  clear hA
  obtain ⟨v0, v1, v2, rfl, g0, g1, g2⟩ := fA_3 hG
  clear hG
  obtain ⟨x0, rfl, b0, d0⟩ := aG_int g0
  dsimp only at b0 d0
  obtain ⟨x1, rfl, b1, d1⟩ := fG_ref (by decide) g1
  obtain ⟨x2, rfl, b2, d2⟩ := aG_int g2
  dsimp only at b2 d2
  obtain ⟨m1, m2, m3, m4⟩ := hM
  have f0 : fB K n p 152 [fR x1, fI x2] σ := by
    obtain ⟨w, e6, e7⟩ := m4 (2434, [1, 2]) (List.mem_of_getElem? (i := 0) rfl)
    obtain rfl : [fR x1, fI x2] = w := Option.some.inj (show some [fR x1, fI x2] = some w from e6)
    exact (fF_b (r := 2434) (by decide) rfl).mp e7
  clear m1 m2 m3 m4
  obtain ⟨b, x, R, e, o, z⟩ := f0
  cases e
  obtain ⟨g, w⟩ := fMe_ex hH b1 d1
  have q0 : fB K n (p) 140 [fR x1] σ := by
    exact ⟨_, g, R, rfl, w, o, fun h => by omega⟩
  exact ⟨p, fun _ => rfl, ⟨(fun q h => by cases h), fun q h => (by cases h), (fun f h => by cases h), (aAllc ⟨_, rfl, (fF_b (r := 2241) (by decide) rfl).mpr q0⟩ (fun f h => by cases h))⟩, [], List.mem_cons_self, fun f h => (by cases h)⟩
set_option maxRecDepth 8192 in
theorem rw_ruRB2 {K : Nat → Nat} {n : Nat} : aGho (fF K n) fa_T K n (fJX K n) ag_ruRB2 := by
  refine aGho_of ⟨rfl, rfl⟩ ?_
  intro p σ ρ hH hX hA hM
  have hG := aAG_of hA.1 (fun i e v he hv => (hA.2 i e v he hv).1)
  clear hA
  obtain ⟨v0, v1, v2, v3, v4, v5, v6, rfl, g0, g1, g2, g3, g4, g5, g6⟩ := fA_7 hG
  clear hG
  obtain ⟨x0, rfl, b0, d0⟩ := aG_int g0
  dsimp only at b0 d0
  obtain ⟨x1, rfl, b1, d1⟩ := fG_ref (by decide) g1
  obtain ⟨x2, rfl, b2, d2⟩ := aG_int g2
  dsimp only at b2 d2
  obtain ⟨x3, rfl, b3, d3⟩ := aG_int g3
  dsimp only at b3 d3
  obtain ⟨x4, rfl, b4, d4⟩ := aG_int g4
  dsimp only at b4 d4
  obtain ⟨x5, rfl, b5, d5⟩ := aG_int g5
  dsimp only at b5 d5
  obtain ⟨x6, rfl, b6, d6⟩ := aG_int g6
  dsimp only at b6 d6
  obtain ⟨m1, m2, m3, m4⟩ := hM
  obtain ⟨a0, c0, fs0, w0, e1, s0, t0, e4⟩ := m1 (1, 3, 6) (List.mem_of_getElem? (i := 0) rfl)
  obtain rfl : x1 = a0 := Sum.inl.inj (Option.some.inj (Sum.inr.inj (Sum.inr.inj (Option.some.inj (show some (fR x1) = some _ from e1)))))
  obtain rfl : fI x6 = w0 := Option.some.inj (show some (fI x6) = some w0 from e4)
  clear e1 e4
  have l0 : 0 ≤ (1 * x2.toInt + 0) + -60 := by
    obtain ⟨z, e6, e7⟩ := m3 ([(2, 1)], -60) (List.mem_of_getElem? (i := 0) rfl)
    obtain rfl : (1 * x2.toInt + 0) = z := Option.some.inj (show some (1 * x2.toInt + 0) = some z from e6)
    exact e7
  have l1 : 0 ≤ (-1 * x2.toInt + 0) + 60 := by
    obtain ⟨z, e6, e7⟩ := m3 ([(2, -1)], 60) (List.mem_of_getElem? (i := 1) rfl)
    obtain rfl : (-1 * x2.toInt + 0) = z := Option.some.inj (show some (-1 * x2.toInt + 0) = some z from e6)
    exact e7
  have l2 : 0 ≤ (1 * x3.toInt + 0) + -14 := by
    obtain ⟨z, e6, e7⟩ := m3 ([(3, 1)], -14) (List.mem_of_getElem? (i := 2) rfl)
    obtain rfl : (1 * x3.toInt + 0) = z := Option.some.inj (show some (1 * x3.toInt + 0) = some z from e6)
    exact e7
  have l3 : 0 ≤ (-1 * x3.toInt + 0) + 14 := by
    obtain ⟨z, e6, e7⟩ := m3 ([(3, -1)], 14) (List.mem_of_getElem? (i := 3) rfl)
    obtain rfl : (-1 * x3.toInt + 0) = z := Option.some.inj (show some (-1 * x3.toInt + 0) = some z from e6)
    exact e7
  have l4 : 0 ≤ (1 * x4.toInt + 0) + -63 := by
    obtain ⟨z, e6, e7⟩ := m3 ([(4, 1)], -63) (List.mem_of_getElem? (i := 4) rfl)
    obtain rfl : (1 * x4.toInt + 0) = z := Option.some.inj (show some (1 * x4.toInt + 0) = some z from e6)
    exact e7
  have l5 : 0 ≤ (-1 * x4.toInt + 0) + 63 := by
    obtain ⟨z, e6, e7⟩ := m3 ([(4, -1)], 63) (List.mem_of_getElem? (i := 5) rfl)
    obtain rfl : (-1 * x4.toInt + 0) = z := Option.some.inj (show some (-1 * x4.toInt + 0) = some z from e6)
    exact e7
  have l6 : 0 ≤ (1 * x5.toInt + 0) + -12 := by
    obtain ⟨z, e6, e7⟩ := m3 ([(5, 1)], -12) (List.mem_of_getElem? (i := 6) rfl)
    obtain rfl : (1 * x5.toInt + 0) = z := Option.some.inj (show some (1 * x5.toInt + 0) = some z from e6)
    exact e7
  have l7 : 0 ≤ (-1 * x5.toInt + 0) + 12 := by
    obtain ⟨z, e6, e7⟩ := m3 ([(5, -1)], 12) (List.mem_of_getElem? (i := 7) rfl)
    obtain rfl : (-1 * x5.toInt + 0) = z := Option.some.inj (show some (-1 * x5.toInt + 0) = some z from e6)
    exact e7
  have f0 : fB K n p 146 [fR x1, fI x2, fI x3] σ := by
    obtain ⟨w, e6, e7⟩ := m4 (2339, [1, 2, 3]) (List.mem_of_getElem? (i := 0) rfl)
    obtain rfl : [fR x1, fI x2, fI x3] = w := Option.some.inj (show some [fR x1, fI x2, fI x3] = some w from e6)
    exact (fF_b (r := 2339) (by decide) rfl).mp e7
  have f1 : fB K n p 147 [fR x1, fI x4, fI x5] σ := by
    obtain ⟨w, e6, e7⟩ := m4 (2355, [1, 4, 5]) (List.mem_of_getElem? (i := 1) rfl)
    obtain rfl : [fR x1, fI x4, fI x5] = w := Option.some.inj (show some [fR x1, fI x4, fI x5] = some w from e6)
    exact (fF_b (r := 2355) (by decide) rfl).mp e7
  clear m1 m2 m3 m4
  obtain ⟨b8, q1, v1, g1, e1, w1, z1⟩ := f0
  cases e1
  obtain ⟨b9, q2, v2, g2, e2, w2, z2⟩ := f1
  cases e2
  obtain rfl := fMe_u w1 w2
  have q0 : fB K n (p) 140 [fR x1] σ := by
    rw [show x2.toInt.toNat = 60 by omega] at z1
    rw [show x4.toInt.toNat = 63 by omega] at z2
    exact ⟨_, g1, x6, rfl, w1, ⟨b1, d1, _, _, s0, t0⟩, fun _ => ⟨by rw [z1]; omega, by rw [z2]; omega⟩⟩
  exact ⟨p, fun _ => rfl, ⟨(fun q h => by cases h), fun q h => (by cases h), (fun f h => by cases h), (aAllc ⟨_, rfl, (fF_b (r := 2241) (by decide) rfl).mpr q0⟩ (fun f h => by cases h))⟩, [], List.mem_cons_self, fun f h => (by cases h)⟩
set_option maxRecDepth 8192 in
theorem rw_ruRA3 {K : Nat → Nat} {n : Nat} : aGho (fF K n) fa_T K n (fJX K n) ag_ruRA3 := by
  refine aGho_of ⟨rfl, rfl⟩ ?_
  intro p σ ρ hH hX hA hM
  have hG := aAG_of hA.1 (fun i e v he hv => (hA.2 i e v he hv).1)
  clear hA
  obtain ⟨v0, v1, v2, rfl, g0, g1, g2⟩ := fA_3 hG
  clear hG
  obtain ⟨x0, rfl, b0, d0⟩ := aG_int g0
  dsimp only at b0 d0
  obtain ⟨x1, rfl, b1, d1⟩ := fG_ref (by decide) g1
  obtain ⟨x2, rfl, b2, d2⟩ := aG_int g2
  dsimp only at b2 d2
  obtain ⟨m1, m2, m3, m4⟩ := hM
  have f0 : fB K n p 153 [fR x1, fI x2] σ := by
    obtain ⟨w, e6, e7⟩ := m4 (2450, [1, 2]) (List.mem_of_getElem? (i := 0) rfl)
    obtain rfl : [fR x1, fI x2] = w := Option.some.inj (show some [fR x1, fI x2] = some w from e6)
    exact (fF_b (r := 2450) (by decide) rfl).mp e7
  clear m1 m2 m3 m4
  obtain ⟨b, x, R, e, o, z⟩ := f0
  cases e
  obtain ⟨g, w⟩ := fMe_ex hH b1 d1
  have q0 : fB K n (p) 141 [fR x1] σ := by
    exact ⟨_, g, R, rfl, w, o, fun h => by omega⟩
  exact ⟨p, fun _ => rfl, ⟨(fun q h => by cases h), fun q h => (by cases h), (fun f h => by cases h), (aAllc ⟨_, rfl, (fF_b (r := 2257) (by decide) rfl).mpr q0⟩ (fun f h => by cases h))⟩, [], List.mem_cons_self, fun f h => (by cases h)⟩
set_option maxRecDepth 8192 in
theorem rw_ruRB3 {K : Nat → Nat} {n : Nat} : aGho (fF K n) fa_T K n (fJX K n) ag_ruRB3 := by
  refine aGho_of ⟨rfl, rfl⟩ ?_
  intro p σ ρ hH hX hA hM
  have hG := aAG_of hA.1 (fun i e v he hv => (hA.2 i e v he hv).1)
  clear hA
  obtain ⟨v0, v1, v2, v3, v4, v5, v6, rfl, g0, g1, g2, g3, g4, g5, g6⟩ := fA_7 hG
  clear hG
  obtain ⟨x0, rfl, b0, d0⟩ := aG_int g0
  dsimp only at b0 d0
  obtain ⟨x1, rfl, b1, d1⟩ := fG_ref (by decide) g1
  obtain ⟨x2, rfl, b2, d2⟩ := aG_int g2
  dsimp only at b2 d2
  obtain ⟨x3, rfl, b3, d3⟩ := aG_int g3
  dsimp only at b3 d3
  obtain ⟨x4, rfl, b4, d4⟩ := aG_int g4
  dsimp only at b4 d4
  obtain ⟨x5, rfl, b5, d5⟩ := aG_int g5
  dsimp only at b5 d5
  obtain ⟨x6, rfl, b6, d6⟩ := aG_int g6
  dsimp only at b6 d6
  obtain ⟨m1, m2, m3, m4⟩ := hM
  obtain ⟨a0, c0, fs0, w0, e1, s0, t0, e4⟩ := m1 (1, 3, 6) (List.mem_of_getElem? (i := 0) rfl)
  obtain rfl : x1 = a0 := Sum.inl.inj (Option.some.inj (Sum.inr.inj (Sum.inr.inj (Option.some.inj (show some (fR x1) = some _ from e1)))))
  obtain rfl : fI x6 = w0 := Option.some.inj (show some (fI x6) = some w0 from e4)
  clear e1 e4
  have l0 : 0 ≤ (1 * x2.toInt + 0) + -60 := by
    obtain ⟨z, e6, e7⟩ := m3 ([(2, 1)], -60) (List.mem_of_getElem? (i := 0) rfl)
    obtain rfl : (1 * x2.toInt + 0) = z := Option.some.inj (show some (1 * x2.toInt + 0) = some z from e6)
    exact e7
  have l1 : 0 ≤ (-1 * x2.toInt + 0) + 60 := by
    obtain ⟨z, e6, e7⟩ := m3 ([(2, -1)], 60) (List.mem_of_getElem? (i := 1) rfl)
    obtain rfl : (-1 * x2.toInt + 0) = z := Option.some.inj (show some (-1 * x2.toInt + 0) = some z from e6)
    exact e7
  have l2 : 0 ≤ (1 * x3.toInt + 0) + -14 := by
    obtain ⟨z, e6, e7⟩ := m3 ([(3, 1)], -14) (List.mem_of_getElem? (i := 2) rfl)
    obtain rfl : (1 * x3.toInt + 0) = z := Option.some.inj (show some (1 * x3.toInt + 0) = some z from e6)
    exact e7
  have l3 : 0 ≤ (-1 * x3.toInt + 0) + 14 := by
    obtain ⟨z, e6, e7⟩ := m3 ([(3, -1)], 14) (List.mem_of_getElem? (i := 3) rfl)
    obtain rfl : (-1 * x3.toInt + 0) = z := Option.some.inj (show some (-1 * x3.toInt + 0) = some z from e6)
    exact e7
  have l4 : 0 ≤ (1 * x4.toInt + 0) + -56 := by
    obtain ⟨z, e6, e7⟩ := m3 ([(4, 1)], -56) (List.mem_of_getElem? (i := 4) rfl)
    obtain rfl : (1 * x4.toInt + 0) = z := Option.some.inj (show some (1 * x4.toInt + 0) = some z from e6)
    exact e7
  have l5 : 0 ≤ (-1 * x4.toInt + 0) + 56 := by
    obtain ⟨z, e6, e7⟩ := m3 ([(4, -1)], 56) (List.mem_of_getElem? (i := 5) rfl)
    obtain rfl : (-1 * x4.toInt + 0) = z := Option.some.inj (show some (-1 * x4.toInt + 0) = some z from e6)
    exact e7
  have l6 : 0 ≤ (1 * x5.toInt + 0) + -12 := by
    obtain ⟨z, e6, e7⟩ := m3 ([(5, 1)], -12) (List.mem_of_getElem? (i := 6) rfl)
    obtain rfl : (1 * x5.toInt + 0) = z := Option.some.inj (show some (1 * x5.toInt + 0) = some z from e6)
    exact e7
  have l7 : 0 ≤ (-1 * x5.toInt + 0) + 12 := by
    obtain ⟨z, e6, e7⟩ := m3 ([(5, -1)], 12) (List.mem_of_getElem? (i := 7) rfl)
    obtain rfl : (-1 * x5.toInt + 0) = z := Option.some.inj (show some (-1 * x5.toInt + 0) = some z from e6)
    exact e7
  have f0 : fB K n p 146 [fR x1, fI x2, fI x3] σ := by
    obtain ⟨w, e6, e7⟩ := m4 (2339, [1, 2, 3]) (List.mem_of_getElem? (i := 0) rfl)
    obtain rfl : [fR x1, fI x2, fI x3] = w := Option.some.inj (show some [fR x1, fI x2, fI x3] = some w from e6)
    exact (fF_b (r := 2339) (by decide) rfl).mp e7
  have f1 : fB K n p 147 [fR x1, fI x4, fI x5] σ := by
    obtain ⟨w, e6, e7⟩ := m4 (2355, [1, 4, 5]) (List.mem_of_getElem? (i := 1) rfl)
    obtain rfl : [fR x1, fI x4, fI x5] = w := Option.some.inj (show some [fR x1, fI x4, fI x5] = some w from e6)
    exact (fF_b (r := 2355) (by decide) rfl).mp e7
  clear m1 m2 m3 m4
  obtain ⟨b8, q1, v1, g1, e1, w1, z1⟩ := f0
  cases e1
  obtain ⟨b9, q2, v2, g2, e2, w2, z2⟩ := f1
  cases e2
  obtain rfl := fMe_u w1 w2
  have q0 : fB K n (p) 141 [fR x1] σ := by
    rw [show x2.toInt.toNat = 60 by omega] at z1
    rw [show x4.toInt.toNat = 56 by omega] at z2
    exact ⟨_, g1, x6, rfl, w1, ⟨b1, d1, _, _, s0, t0⟩, fun _ => ⟨by rw [z1]; omega, by rw [z2]; omega⟩⟩
  exact ⟨p, fun _ => rfl, ⟨(fun q h => by cases h), fun q h => (by cases h), (fun f h => by cases h), (aAllc ⟨_, rfl, (fF_b (r := 2257) (by decide) rfl).mpr q0⟩ (fun f h => by cases h))⟩, [], List.mem_cons_self, fun f h => (by cases h)⟩
set_option maxRecDepth 8192 in
theorem rw_ruRGT {K : Nat → Nat} {n : Nat} : aGho (fF K n) fa_T K n (fJX K n) ag_ruRGT := by
  refine aGho_of ⟨rfl, rfl⟩ ?_
  intro p σ ρ hH hX hA hM
  have hG := aAG_of hA.1 (fun i e v he hv => (hA.2 i e v he hv).1)
  clear hA
  obtain ⟨v0, v1, rfl, g0, g1⟩ := fA_2 hG
  clear hG
  obtain ⟨x0, rfl, b0, d0⟩ := fG_ref (by decide) g0
  obtain ⟨x1, rfl, b1, d1⟩ := aG_int g1
  dsimp only at b1 d1
  obtain ⟨m1, m2, m3, m4⟩ := hM
  have f0 : fB K n p 138 [fR x0] σ := by
    obtain ⟨w, e6, e7⟩ := m4 (2209, [0]) (List.mem_of_getElem? (i := 0) rfl)
    obtain rfl : [fR x0] = w := Option.some.inj (show some [fR x0] = some w from e6)
    exact (fF_b (r := 2209) (by decide) rfl).mp e7
  have f1 : fB K n p 139 [fR x0] σ := by
    obtain ⟨w, e6, e7⟩ := m4 (2225, [0]) (List.mem_of_getElem? (i := 1) rfl)
    obtain rfl : [fR x0] = w := Option.some.inj (show some [fR x0] = some w from e6)
    exact (fF_b (r := 2225) (by decide) rfl).mp e7
  have f2 : fB K n p 140 [fR x0] σ := by
    obtain ⟨w, e6, e7⟩ := m4 (2241, [0]) (List.mem_of_getElem? (i := 2) rfl)
    obtain rfl : [fR x0] = w := Option.some.inj (show some [fR x0] = some w from e6)
    exact (fF_b (r := 2241) (by decide) rfl).mp e7
  have f3 : fB K n p 141 [fR x0] σ := by
    obtain ⟨w, e6, e7⟩ := m4 (2257, [0]) (List.mem_of_getElem? (i := 3) rfl)
    obtain rfl : [fR x0] = w := Option.some.inj (show some [fR x0] = some w from e6)
    exact (fF_b (r := 2257) (by decide) rfl).mp e7
  clear m1 m2 m3 m4
  obtain ⟨b9, g20, R0, e20, w20, o20, z20⟩ := f0
  cases e20
  obtain ⟨b10, g21, R1, e21, w21, o21, z21⟩ := f1
  cases e21
  obtain ⟨b11, g22, R2, e22, w22, o22, z22⟩ := f2
  cases e22
  obtain ⟨b12, g23, R3, e23, w23, o23, z23⟩ := f3
  cases e23
  obtain rfl := fMe_u w21 w20
  obtain rfl := fOb_v o20 o21
  obtain rfl := fMe_u w22 w20
  obtain rfl := fOb_v o20 o22
  obtain rfl := fMe_u w23 w20
  obtain rfl := fOb_v o20 o23
  have q0 : fB K n (p) 148 [fR x0, fI x1] σ := by
    exact ⟨_, _, rfl, Or.inr ⟨_, _, w20, o20, z20, z21, z22, z23⟩⟩
  exact ⟨p, fun _ => rfl, ⟨(fun q h => by cases h), fun q h => (by cases h), (fun f h => by cases h), (aAllc ⟨_, rfl, (fF_b (r := 2370) (by decide) rfl).mpr q0⟩ (fun f h => by cases h))⟩, [], List.mem_cons_self, fun f h => (by cases h)⟩
set_option maxRecDepth 8192 in
theorem rw_ruRG0 {K : Nat → Nat} {n : Nat} : aGho (fF K n) fa_T K n (fJX K n) ag_ruRG0 := by
  refine aGho_of ⟨rfl, rfl⟩ ?_
  intro p σ ρ hH hX hA hM
  have hG := aAG_of hA.1 (fun i e v he hv => (hA.2 i e v he hv).1)
  clear hA
  obtain ⟨v0, v1, rfl, g0, g1⟩ := fA_2 hG
  clear hG
  obtain ⟨x0, rfl, b0, d0⟩ := fG_ref (by decide) g0
  obtain ⟨x1, rfl, b1, d1⟩ := aG_int g1
  dsimp only at b1 d1
  obtain ⟨m1, m2, m3, m4⟩ := hM
  clear m1 m2 m3 m4
  have q0 : fB K n (p) 148 [fR x0, fI x1] σ := by
    exact ⟨_, _, rfl, Or.inl (by omega)⟩
  exact ⟨p, fun _ => rfl, ⟨(fun q h => by cases h), fun q h => (by cases h), (fun f h => by cases h), (aAllc ⟨_, rfl, (fF_b (r := 2370) (by decide) rfl).mpr q0⟩ (fun f h => by cases h))⟩, [], List.mem_cons_self, fun f h => (by cases h)⟩
set_option maxRecDepth 8192 in
theorem rw_ruRG1 {K : Nat → Nat} {n : Nat} : aGho (fF K n) fa_T K n (fJX K n) ag_ruRG1 := by
  refine aGho_of ⟨rfl, rfl⟩ ?_
  intro p σ ρ hH hX hA hM
  have hG := aAG_of hA.1 (fun i e v he hv => (hA.2 i e v he hv).1)
  clear hA
  obtain ⟨v0, v1, rfl, g0, g1⟩ := fA_2 hG
  clear hG
  obtain ⟨x0, rfl, b0, d0⟩ := fG_ref (by decide) g0
  obtain ⟨x1, rfl, b1, d1⟩ := aG_int g1
  dsimp only at b1 d1
  obtain ⟨m1, m2, m3, m4⟩ := hM
  have f0 : fB K n p 148 [fR x0, fI x1] σ := by
    obtain ⟨w, e6, e7⟩ := m4 (2370, [0, 1]) (List.mem_of_getElem? (i := 0) rfl)
    obtain rfl : [fR x0, fI x1] = w := Option.some.inj (show some [fR x0, fI x1] = some w from e6)
    exact (fF_b (r := 2370) (by decide) rfl).mp e7
  clear m1 m2 m3 m4
  obtain ⟨b, x, e, h⟩ := f0
  cases e
  have q0 : fB K n (p) 142 [fR x0] σ := by
    exact ⟨_, rfl, h.resolve_left (by omega)⟩
  exact ⟨p, fun _ => rfl, ⟨(fun q h => by cases h), fun q h => (by cases h), (fun f h => by cases h), (aAllc ⟨_, rfl, (fF_b (r := 2273) (by decide) rfl).mpr q0⟩ (fun f h => by cases h))⟩, [], List.mem_cons_self, fun f h => (by cases h)⟩
set_option maxRecDepth 8192 in
theorem rw_ruPS0 {K : Nat → Nat} {n : Nat} : aGho (fF K n) fa_T K n (fJX K n) ag_ruPS0 := by
  refine aGho_of ⟨rfl, rfl⟩ ?_
  intro p σ ρ hH hX hA hM
  have hG := aAG_of hA.1 (fun i e v he hv => (hA.2 i e v he hv).1)
  clear hA
  obtain ⟨v0, v1, v2, v3, v4, v5, rfl, g0, g1, g2, g3, g4, g5⟩ := fA_6 hG
  clear hG
  obtain ⟨x0, rfl, b0, d0⟩ := fG_ref (by decide) g0
  obtain ⟨x1, rfl, b1, d1⟩ := aG_int g1
  dsimp only at b1 d1
  obtain ⟨x2, rfl, b2, d2⟩ := aG_int g2
  dsimp only at b2 d2
  obtain ⟨x3, rfl, b3, d3⟩ := aG_int g3
  dsimp only at b3 d3
  obtain ⟨x4, rfl, b4, d4⟩ := aG_int g4
  dsimp only at b4 d4
  obtain ⟨x5, rfl, b5, d5⟩ := aG_int g5
  dsimp only at b5 d5
  obtain ⟨m1, m2, m3, m4⟩ := hM
  obtain ⟨a0, c0, fs0, w0, e1, s0, t0, e4⟩ := m1 (0, 2, 1) (List.mem_of_getElem? (i := 0) rfl)
  obtain rfl : x0 = a0 := Sum.inl.inj (Option.some.inj (Sum.inr.inj (Sum.inr.inj (Option.some.inj (show some (fR x0) = some _ from e1)))))
  obtain rfl : fI x1 = w0 := Option.some.inj (show some (fI x1) = some w0 from e4)
  clear e1 e4
  obtain ⟨a1, c1, fs1, w1, e1, s1, t1, e4⟩ := m1 (0, 4, 2) (List.mem_of_getElem? (i := 1) rfl)
  obtain rfl : x0 = a1 := Sum.inl.inj (Option.some.inj (Sum.inr.inj (Sum.inr.inj (Option.some.inj (show some (fR x0) = some _ from e1)))))
  obtain rfl : fI x2 = w1 := Option.some.inj (show some (fI x2) = some w1 from e4)
  clear e1 e4
  have l0 : 0 ≤ (1 * x2.toInt + 0) + -40 := by
    obtain ⟨z, e6, e7⟩ := m3 ([(2, 1)], -40) (List.mem_of_getElem? (i := 0) rfl)
    obtain rfl : (1 * x2.toInt + 0) = z := Option.some.inj (show some (1 * x2.toInt + 0) = some z from e6)
    exact e7
  have l1 : 0 ≤ (-1 * x2.toInt + 0) + 47 := by
    obtain ⟨z, e6, e7⟩ := m3 ([(2, -1)], 47) (List.mem_of_getElem? (i := 1) rfl)
    obtain rfl : (-1 * x2.toInt + 0) = z := Option.some.inj (show some (-1 * x2.toInt + 0) = some z from e6)
    exact e7
  have l2 : 0 ≤ (1 * x3.toInt + (-1 * x2.toInt + 0)) + 8 := by
    obtain ⟨z, e6, e7⟩ := m3 ([(3, 1), (2, -1)], 8) (List.mem_of_getElem? (i := 2) rfl)
    obtain rfl : (1 * x3.toInt + (-1 * x2.toInt + 0)) = z := Option.some.inj (show some (1 * x3.toInt + (-1 * x2.toInt + 0)) = some z from e6)
    exact e7
  have l3 : 0 ≤ (-1 * x3.toInt + (1 * x2.toInt + 0)) + -8 := by
    obtain ⟨z, e6, e7⟩ := m3 ([(3, -1), (2, 1)], -8) (List.mem_of_getElem? (i := 3) rfl)
    obtain rfl : (-1 * x3.toInt + (1 * x2.toInt + 0)) = z := Option.some.inj (show some (-1 * x3.toInt + (1 * x2.toInt + 0)) = some z from e6)
    exact e7
  have f0 : fB K n p 146 [fR x0, fI x2, fI x5] σ := by
    obtain ⟨w, e6, e7⟩ := m4 (2339, [0, 2, 5]) (List.mem_of_getElem? (i := 0) rfl)
    obtain rfl : [fR x0, fI x2, fI x5] = w := Option.some.inj (show some [fR x0, fI x2, fI x5] = some w from e6)
    exact (fF_b (r := 2339) (by decide) rfl).mp e7
  have f1 : fB K n p 147 [fR x0, fI x3, fI x4] σ := by
    obtain ⟨w, e6, e7⟩ := m4 (2355, [0, 3, 4]) (List.mem_of_getElem? (i := 1) rfl)
    obtain rfl : [fR x0, fI x3, fI x4] = w := Option.some.inj (show some [fR x0, fI x3, fI x4] = some w from e6)
    exact (fF_b (r := 2355) (by decide) rfl).mp e7
  clear m1 m2 m3 m4
  obtain ⟨b1, q1, v1, g1, e1, w1, z1⟩ := f0
  cases e1
  obtain ⟨b2, q2, v2, g2, e2, w2, z2⟩ := f1
  cases e2
  obtain rfl := fMe_u w1 w2
  have q0 : fB K n (p) 143 [fR x0] σ := by
    refine ⟨_, rfl, g1, x2, x1, w1, ⟨b0, d0, _, _, s1, t1⟩, ⟨b0, d0, _, _, s0, t0⟩, by omega, by rw [z1]; omega, Or.inl ⟨by omega, by omega, by omega, ?_⟩⟩
    rw [show (x2.toInt - 8).toNat = x3.toInt.toNat by omega, z2]
    omega
  exact ⟨p, fun _ => rfl, ⟨(fun q h => by cases h), fun q h => (by cases h), (fun f h => by cases h), (aAllc ⟨_, rfl, (fF_b (r := 2289) (by decide) rfl).mpr q0⟩ (fun f h => by cases h))⟩, [], List.mem_cons_self, fun f h => (by cases h)⟩
set_option maxRecDepth 8192 in
theorem rw_ruPS1 {K : Nat → Nat} {n : Nat} : aGho (fF K n) fa_T K n (fJX K n) ag_ruPS1 := by
  refine aGho_of ⟨rfl, rfl⟩ ?_
  intro p σ ρ hH hX hA hM
  have hG := aAG_of hA.1 (fun i e v he hv => (hA.2 i e v he hv).1)
  clear hA
  obtain ⟨v0, v1, v2, v3, v4, v5, rfl, g0, g1, g2, g3, g4, g5⟩ := fA_6 hG
  clear hG
  obtain ⟨x0, rfl, b0, d0⟩ := fG_ref (by decide) g0
  obtain ⟨x1, rfl, b1, d1⟩ := aG_int g1
  dsimp only at b1 d1
  obtain ⟨x2, rfl, b2, d2⟩ := aG_int g2
  dsimp only at b2 d2
  obtain ⟨x3, rfl, b3, d3⟩ := aG_int g3
  dsimp only at b3 d3
  obtain ⟨x4, rfl, b4, d4⟩ := aG_int g4
  dsimp only at b4 d4
  obtain ⟨x5, rfl, b5, d5⟩ := aG_int g5
  dsimp only at b5 d5
  obtain ⟨m1, m2, m3, m4⟩ := hM
  obtain ⟨a0, c0, fs0, w0, e1, s0, t0, e4⟩ := m1 (0, 2, 1) (List.mem_of_getElem? (i := 0) rfl)
  obtain rfl : x0 = a0 := Sum.inl.inj (Option.some.inj (Sum.inr.inj (Sum.inr.inj (Option.some.inj (show some (fR x0) = some _ from e1)))))
  obtain rfl : fI x1 = w0 := Option.some.inj (show some (fI x1) = some w0 from e4)
  clear e1 e4
  obtain ⟨a1, c1, fs1, w1, e1, s1, t1, e4⟩ := m1 (0, 4, 2) (List.mem_of_getElem? (i := 1) rfl)
  obtain rfl : x0 = a1 := Sum.inl.inj (Option.some.inj (Sum.inr.inj (Sum.inr.inj (Option.some.inj (show some (fR x0) = some _ from e1)))))
  obtain rfl : fI x2 = w1 := Option.some.inj (show some (fI x2) = some w1 from e4)
  clear e1 e4
  have l0 : 0 ≤ (1 * x2.toInt + 0) + -16 := by
    obtain ⟨z, e6, e7⟩ := m3 ([(2, 1)], -16) (List.mem_of_getElem? (i := 0) rfl)
    obtain rfl : (1 * x2.toInt + 0) = z := Option.some.inj (show some (1 * x2.toInt + 0) = some z from e6)
    exact e7
  have l1 : 0 ≤ (-1 * x2.toInt + 0) + 23 := by
    obtain ⟨z, e6, e7⟩ := m3 ([(2, -1)], 23) (List.mem_of_getElem? (i := 1) rfl)
    obtain rfl : (-1 * x2.toInt + 0) = z := Option.some.inj (show some (-1 * x2.toInt + 0) = some z from e6)
    exact e7
  have l2 : 0 ≤ (1 * x3.toInt + (-1 * x2.toInt + 0)) + -8 := by
    obtain ⟨z, e6, e7⟩ := m3 ([(3, 1), (2, -1)], -8) (List.mem_of_getElem? (i := 2) rfl)
    obtain rfl : (1 * x3.toInt + (-1 * x2.toInt + 0)) = z := Option.some.inj (show some (1 * x3.toInt + (-1 * x2.toInt + 0)) = some z from e6)
    exact e7
  have l3 : 0 ≤ (-1 * x3.toInt + (1 * x2.toInt + 0)) + 8 := by
    obtain ⟨z, e6, e7⟩ := m3 ([(3, -1), (2, 1)], 8) (List.mem_of_getElem? (i := 3) rfl)
    obtain rfl : (-1 * x3.toInt + (1 * x2.toInt + 0)) = z := Option.some.inj (show some (-1 * x3.toInt + (1 * x2.toInt + 0)) = some z from e6)
    exact e7
  have f0 : fB K n p 146 [fR x0, fI x2, fI x5] σ := by
    obtain ⟨w, e6, e7⟩ := m4 (2339, [0, 2, 5]) (List.mem_of_getElem? (i := 0) rfl)
    obtain rfl : [fR x0, fI x2, fI x5] = w := Option.some.inj (show some [fR x0, fI x2, fI x5] = some w from e6)
    exact (fF_b (r := 2339) (by decide) rfl).mp e7
  have f1 : fB K n p 147 [fR x0, fI x3, fI x4] σ := by
    obtain ⟨w, e6, e7⟩ := m4 (2355, [0, 3, 4]) (List.mem_of_getElem? (i := 1) rfl)
    obtain rfl : [fR x0, fI x3, fI x4] = w := Option.some.inj (show some [fR x0, fI x3, fI x4] = some w from e6)
    exact (fF_b (r := 2355) (by decide) rfl).mp e7
  clear m1 m2 m3 m4
  obtain ⟨b1, q1, v1, g1, e1, w1, z1⟩ := f0
  cases e1
  obtain ⟨b2, q2, v2, g2, e2, w2, z2⟩ := f1
  cases e2
  obtain rfl := fMe_u w1 w2
  have q0 : fB K n (p) 143 [fR x0] σ := by
    refine ⟨_, rfl, g1, x2, x1, w1, ⟨b0, d0, _, _, s1, t1⟩, ⟨b0, d0, _, _, s0, t0⟩, by omega, by rw [z1]; omega, Or.inr ⟨by omega, by omega, by omega, ?_⟩⟩
    rw [show (x2.toInt + 8).toNat = x3.toInt.toNat by omega, z2]
    omega
  exact ⟨p, fun _ => rfl, ⟨(fun q h => by cases h), fun q h => (by cases h), (fun f h => by cases h), (aAllc ⟨_, rfl, (fF_b (r := 2289) (by decide) rfl).mpr q0⟩ (fun f h => by cases h))⟩, [], List.mem_cons_self, fun f h => (by cases h)⟩
set_option maxRecDepth 8192 in
theorem rw_ruPX {K : Nat → Nat} {n : Nat} : aGho (fF K n) fa_T K n (fJX K n) ag_ruPX := by
  refine aGho_of ⟨rfl, rfl⟩ ?_
  intro p σ ρ hH hX hA hM
  have hG := aAG_of hA.1 (fun i e v he hv => (hA.2 i e v he hv).1)
  clear hA
  obtain ⟨v0, v1, rfl, g0, g1⟩ := fA_2 hG
  clear hG
  obtain ⟨x0, rfl, b0, d0⟩ := fG_ref (by decide) g0
  obtain ⟨x1, rfl, b1, d1⟩ := aG_int g1
  dsimp only at b1 d1
  obtain ⟨m1, m2, m3, m4⟩ := hM
  have f0 : fB K n p 143 [fR x0] σ := by
    obtain ⟨w, e6, e7⟩ := m4 (2289, [0]) (List.mem_of_getElem? (i := 0) rfl)
    obtain rfl : [fR x0] = w := Option.some.inj (show some [fR x0] = some w from e6)
    exact (fF_b (r := 2289) (by decide) rfl).mp e7
  clear m1 m2 m3 m4
  obtain ⟨b, e, h⟩ := f0
  cases e
  have q0 : fB K n (p) 149 [fR x0, fI x1] σ := by
    exact ⟨_, _, rfl, Or.inr h⟩
  exact ⟨p, fun _ => rfl, ⟨(fun q h => by cases h), fun q h => (by cases h), (fun f h => by cases h), (aAllc ⟨_, rfl, (fF_b (r := 2386) (by decide) rfl).mpr q0⟩ (fun f h => by cases h))⟩, [], List.mem_cons_self, fun f h => (by cases h)⟩
set_option maxRecDepth 8192 in
theorem rw_ruPX0 {K : Nat → Nat} {n : Nat} : aGho (fF K n) fa_T K n (fJX K n) ag_ruPX0 := by
  refine aGho_of ⟨rfl, rfl⟩ ?_
  intro p σ ρ hH hX hA hM
  have hG := aAG_of hA.1 (fun i e v he hv => (hA.2 i e v he hv).1)
  clear hA
  obtain ⟨v0, v1, rfl, g0, g1⟩ := fA_2 hG
  clear hG
  obtain ⟨x0, rfl, b0, d0⟩ := fG_ref (by decide) g0
  obtain ⟨x1, rfl, b1, d1⟩ := aG_int g1
  dsimp only at b1 d1
  obtain ⟨m1, m2, m3, m4⟩ := hM
  clear m1 m2 m3 m4
  have q0 : fB K n (p) 149 [fR x0, fI x1] σ := by
    exact ⟨_, _, rfl, Or.inl (by omega)⟩
  exact ⟨p, fun _ => rfl, ⟨(fun q h => by cases h), fun q h => (by cases h), (fun f h => by cases h), (aAllc ⟨_, rfl, (fF_b (r := 2386) (by decide) rfl).mpr q0⟩ (fun f h => by cases h))⟩, [], List.mem_cons_self, fun f h => (by cases h)⟩
set_option maxRecDepth 8192 in
theorem rw_ruPX1 {K : Nat → Nat} {n : Nat} : aGho (fF K n) fa_T K n (fJX K n) ag_ruPX1 := by
  refine aGho_of ⟨rfl, rfl⟩ ?_
  intro p σ ρ hH hX hA hM
  have hG := aAG_of hA.1 (fun i e v he hv => (hA.2 i e v he hv).1)
  clear hA
  obtain ⟨v0, v1, rfl, g0, g1⟩ := fA_2 hG
  clear hG
  obtain ⟨x0, rfl, b0, d0⟩ := fG_ref (by decide) g0
  obtain ⟨x1, rfl, b1, d1⟩ := aG_int g1
  dsimp only at b1 d1
  obtain ⟨m1, m2, m3, m4⟩ := hM
  have f0 : fB K n p 149 [fR x0, fI x1] σ := by
    obtain ⟨w, e6, e7⟩ := m4 (2386, [0, 1]) (List.mem_of_getElem? (i := 0) rfl)
    obtain rfl : [fR x0, fI x1] = w := Option.some.inj (show some [fR x0, fI x1] = some w from e6)
    exact (fF_b (r := 2386) (by decide) rfl).mp e7
  clear m1 m2 m3 m4
  obtain ⟨b, x, e, h⟩ := f0
  cases e
  have q0 : fB K n (p) 143 [fR x0] σ := by
    exact ⟨_, rfl, h.resolve_left (by omega)⟩
  exact ⟨p, fun _ => rfl, ⟨(fun q h => by cases h), fun q h => (by cases h), (fun f h => by cases h), (aAllc ⟨_, rfl, (fF_b (r := 2289) (by decide) rfl).mpr q0⟩ (fun f h => by cases h))⟩, [], List.mem_cons_self, fun f h => (by cases h)⟩
set_option maxRecDepth 8192 in
theorem rw_ruBG0 {K : Nat → Nat} {n : Nat} : aGho (fF K n) fa_T K n (fJX K n) ag_ruBG0 := by
  refine aGho_of ⟨rfl, rfl⟩ ?_
  intro p σ ρ hH hX hA hM
  have hG := aAG_of hA.1 (fun i e v he hv => (hA.2 i e v he hv).1)
  clear hA
  obtain ⟨v0, v1, v2, v3, v4, v5, rfl, g0, g1, g2, g3, g4, g5⟩ := fA_6 hG
  clear hG
  obtain ⟨x0, rfl, b0, d0⟩ := fG_ref (by decide) g0
  obtain ⟨x1, rfl, b1, d1⟩ := aG_int g1
  dsimp only at b1 d1
  obtain ⟨x2, rfl, b2, d2⟩ := aG_int g2
  dsimp only at b2 d2
  obtain ⟨x3, rfl, b3, d3⟩ := aG_int g3
  dsimp only at b3 d3
  obtain ⟨x4, rfl, b4, d4⟩ := aG_int g4
  dsimp only at b4 d4
  obtain ⟨x5, rfl, b5, d5⟩ := aG_int g5
  dsimp only at b5 d5
  obtain ⟨m1, m2, m3, m4⟩ := hM
  obtain ⟨a0, c0, fs0, w0, e1, s0, t0, e4⟩ := m1 (0, 2, 4) (List.mem_of_getElem? (i := 0) rfl)
  obtain rfl : x0 = a0 := Sum.inl.inj (Option.some.inj (Sum.inr.inj (Sum.inr.inj (Option.some.inj (show some (fR x0) = some _ from e1)))))
  obtain rfl : fI x4 = w0 := Option.some.inj (show some (fI x4) = some w0 from e4)
  clear e1 e4
  obtain ⟨a1, c1, fs1, w1, e1, s1, t1, e4⟩ := m1 (0, 3, 5) (List.mem_of_getElem? (i := 1) rfl)
  obtain rfl : x0 = a1 := Sum.inl.inj (Option.some.inj (Sum.inr.inj (Sum.inr.inj (Option.some.inj (show some (fR x0) = some _ from e1)))))
  obtain rfl : fI x5 = w1 := Option.some.inj (show some (fI x5) = some w1 from e4)
  clear e1 e4
  obtain ⟨a2, c2, fs2, w2, e1, s2, t2, e4⟩ := m1 (0, 4, 1) (List.mem_of_getElem? (i := 2) rfl)
  obtain rfl : x0 = a2 := Sum.inl.inj (Option.some.inj (Sum.inr.inj (Sum.inr.inj (Option.some.inj (show some (fR x0) = some _ from e1)))))
  obtain rfl : fI x1 = w2 := Option.some.inj (show some (fI x1) = some w2 from e4)
  clear e1 e4
  obtain ⟨a3, c3, fs3, w3, e1, s3, t3, e4⟩ := m1 (0, 5, 2) (List.mem_of_getElem? (i := 3) rfl)
  obtain rfl : x0 = a3 := Sum.inl.inj (Option.some.inj (Sum.inr.inj (Sum.inr.inj (Option.some.inj (show some (fR x0) = some _ from e1)))))
  obtain rfl : fI x2 = w3 := Option.some.inj (show some (fI x2) = some w3 from e4)
  clear e1 e4
  have f0 : fB K n p 137 [fR x0] σ := by
    obtain ⟨w, e6, e7⟩ := m4 (2193, [0]) (List.mem_of_getElem? (i := 0) rfl)
    obtain rfl : [fR x0] = w := Option.some.inj (show some [fR x0] = some w from e6)
    exact (fF_b (r := 2193) (by decide) rfl).mp e7
  have f1 : fB K n p 142 [fR x0] σ := by
    obtain ⟨w, e6, e7⟩ := m4 (2273, [0]) (List.mem_of_getElem? (i := 1) rfl)
    obtain rfl : [fR x0] = w := Option.some.inj (show some [fR x0] = some w from e6)
    exact (fF_b (r := 2273) (by decide) rfl).mp e7
  have f2 : fB K n p 154 [fR x0] σ := by
    obtain ⟨w, e6, e7⟩ := m4 (2465, [0]) (List.mem_of_getElem? (i := 2) rfl)
    obtain rfl : [fR x0] = w := Option.some.inj (show some [fR x0] = some w from e6)
    exact (fF_b (r := 2465) (by decide) rfl).mp e7
  have f3 : fB K n p 157 [fR x0, fI x3] σ := by
    obtain ⟨w, e6, e7⟩ := m4 (2514, [0, 3]) (List.mem_of_getElem? (i := 3) rfl)
    obtain rfl : [fR x0, fI x3] = w := Option.some.inj (show some [fR x0, fI x3] = some w from e6)
    exact (fF_b (r := 2514) (by decide) rfl).mp e7
  clear m1 m2 m3 m4
  obtain ⟨b15, g, e15, w, l⟩ := f0
  cases e15
  obtain ⟨b16, e16, g6, R6, w6, o6, r0, r1, r2, r3⟩ := f1
  cases e16
  obtain rfl := fMe_u w6 w
  obtain rfl := fOb_i o6 s1 t1
  obtain ⟨b17, g7, e17, w7, m7, rr, gw, o7, u1, u2, u3, u4, u5⟩ := f2
  cases e17
  obtain rfl := fMe_u w7 w
  obtain ⟨b18, i18, g8, e18, w8, l8⟩ := f3
  cases e18
  obtain rfl := fMe_u w8 w
  have hc := fBo_c hH b0 d0 s0
  subst hc
  rw [s0] at s1 s2 s3
  cases s1
  cases s2
  cases s3
  obtain ⟨r, ⟨ha, hk, c7, fs7, e7, e8⟩, l1, l2, l3⟩ := w
  rw [s0] at e7
  cases e7
  obtain ⟨-, -, c9, fs9, e9, e10⟩ := o7
  rw [s0] at e9
  cases e9
  have q0 : fB K n (p) 127 [fR x0] σ := by
    refine ⟨_, rfl, (g8, fun k => if k = 2 then x4 else if k = 3 then x5 else if k = 4 then x1 else if k = 5 then x2 else if k = 12 then gw 0 else gw 1), ⟨b0, d0, _, r, g8, s0, e8, l1, l2, l3, fun i _ => rfl, t0, t1, t2, t3, rr, gw, e10, u1, u2, u3, rfl, rfl⟩, ⟨Or.inl (show x1.toInt = -1 by omega), ?_, ⟨b4, d4⟩, ⟨b5, d5⟩, fun i hi => ?_⟩, ⟨b2, d2⟩⟩
    · intro s hs
      rcases s with _ | _ | s
      · refine ⟨fun h => ?_, fun h => ?_, u4⟩
        · have h9 := r0 (by simpa using h)
          exact ⟨by simpa using h9.1, by simpa using h9.2⟩
        · have h9 := r1 (by simpa using h)
          exact ⟨by simpa using h9.1, by simpa using h9.2⟩
      · refine ⟨fun h => ?_, fun h => ?_, u5⟩
        · have h9 := r2 (by simpa using h)
          exact ⟨by simpa using h9.1, by simpa using h9.2⟩
        · have h9 := r3 (by simpa using h)
          exact ⟨by simpa using h9.1, by simpa using h9.2⟩
      · omega
    · obtain ⟨a1, a2, a3, a4⟩ := l i hi
      refine ⟨a1, a2, a3, a4, ?_⟩
      by_cases c1 : i < 8
      · have := (l8 i (by omega)).1
        exact Or.inl this
      · by_cases c2 : i ≤ 55
        · exact Or.inr ⟨by omega, c2⟩
        · have := (l8 (i - 56) (by omega)).2
          rw [show 56 + (i - 56) = i by omega] at this
          exact Or.inl this
  exact ⟨p, fun _ => rfl, ⟨(fun q h => by cases h), fun q h => (by cases h), (fun f h => by cases h), (aAllc ⟨_, rfl, (fF_b (r := 2033) (by decide) rfl).mpr q0⟩ (fun f h => by cases h))⟩, [], List.mem_cons_self, fun f h => (by cases h)⟩
set_option maxRecDepth 8192 in
theorem rw_ruBG1 {K : Nat → Nat} {n : Nat} : aGho (fF K n) fa_T K n (fJX K n) ag_ruBG1 := by
  refine aGho_of ⟨rfl, rfl⟩ ?_
  intro p σ ρ hH hX hA hM
  have hG := aAG_of hA.1 (fun i e v he hv => (hA.2 i e v he hv).1)
  clear hA
  obtain ⟨v0, v1, v2, v3, v4, v5, rfl, g0, g1, g2, g3, g4, g5⟩ := fA_6 hG
  clear hG
  obtain ⟨x0, rfl, b0, d0⟩ := fG_ref (by decide) g0
  obtain ⟨x1, rfl, b1, d1⟩ := aG_int g1
  dsimp only at b1 d1
  obtain ⟨x2, rfl, b2, d2⟩ := aG_int g2
  dsimp only at b2 d2
  obtain ⟨x3, rfl, b3, d3⟩ := aG_int g3
  dsimp only at b3 d3
  obtain ⟨x4, rfl, b4, d4⟩ := aG_int g4
  dsimp only at b4 d4
  obtain ⟨x5, rfl, b5, d5⟩ := aG_int g5
  dsimp only at b5 d5
  obtain ⟨m1, m2, m3, m4⟩ := hM
  obtain ⟨a0, c0, fs0, w0, e1, s0, t0, e4⟩ := m1 (0, 2, 4) (List.mem_of_getElem? (i := 0) rfl)
  obtain rfl : x0 = a0 := Sum.inl.inj (Option.some.inj (Sum.inr.inj (Sum.inr.inj (Option.some.inj (show some (fR x0) = some _ from e1)))))
  obtain rfl : fI x4 = w0 := Option.some.inj (show some (fI x4) = some w0 from e4)
  clear e1 e4
  obtain ⟨a1, c1, fs1, w1, e1, s1, t1, e4⟩ := m1 (0, 3, 5) (List.mem_of_getElem? (i := 1) rfl)
  obtain rfl : x0 = a1 := Sum.inl.inj (Option.some.inj (Sum.inr.inj (Sum.inr.inj (Option.some.inj (show some (fR x0) = some _ from e1)))))
  obtain rfl : fI x5 = w1 := Option.some.inj (show some (fI x5) = some w1 from e4)
  clear e1 e4
  obtain ⟨a2, c2, fs2, w2, e1, s2, t2, e4⟩ := m1 (0, 4, 1) (List.mem_of_getElem? (i := 2) rfl)
  obtain rfl : x0 = a2 := Sum.inl.inj (Option.some.inj (Sum.inr.inj (Sum.inr.inj (Option.some.inj (show some (fR x0) = some _ from e1)))))
  obtain rfl : fI x1 = w2 := Option.some.inj (show some (fI x1) = some w2 from e4)
  clear e1 e4
  obtain ⟨a3, c3, fs3, w3, e1, s3, t3, e4⟩ := m1 (0, 5, 2) (List.mem_of_getElem? (i := 3) rfl)
  obtain rfl : x0 = a3 := Sum.inl.inj (Option.some.inj (Sum.inr.inj (Sum.inr.inj (Option.some.inj (show some (fR x0) = some _ from e1)))))
  obtain rfl : fI x2 = w3 := Option.some.inj (show some (fI x2) = some w3 from e4)
  clear e1 e4
  have f0 : fB K n p 137 [fR x0] σ := by
    obtain ⟨w, e6, e7⟩ := m4 (2193, [0]) (List.mem_of_getElem? (i := 0) rfl)
    obtain rfl : [fR x0] = w := Option.some.inj (show some [fR x0] = some w from e6)
    exact (fF_b (r := 2193) (by decide) rfl).mp e7
  have f1 : fB K n p 142 [fR x0] σ := by
    obtain ⟨w, e6, e7⟩ := m4 (2273, [0]) (List.mem_of_getElem? (i := 1) rfl)
    obtain rfl : [fR x0] = w := Option.some.inj (show some [fR x0] = some w from e6)
    exact (fF_b (r := 2273) (by decide) rfl).mp e7
  have f2 : fB K n p 143 [fR x0] σ := by
    obtain ⟨w, e6, e7⟩ := m4 (2289, [0]) (List.mem_of_getElem? (i := 2) rfl)
    obtain rfl : [fR x0] = w := Option.some.inj (show some [fR x0] = some w from e6)
    exact (fF_b (r := 2289) (by decide) rfl).mp e7
  have f3 : fB K n p 154 [fR x0] σ := by
    obtain ⟨w, e6, e7⟩ := m4 (2465, [0]) (List.mem_of_getElem? (i := 3) rfl)
    obtain rfl : [fR x0] = w := Option.some.inj (show some [fR x0] = some w from e6)
    exact (fF_b (r := 2465) (by decide) rfl).mp e7
  have f4 : fB K n p 157 [fR x0, fI x3] σ := by
    obtain ⟨w, e6, e7⟩ := m4 (2514, [0, 3]) (List.mem_of_getElem? (i := 4) rfl)
    obtain rfl : [fR x0, fI x3] = w := Option.some.inj (show some [fR x0, fI x3] = some w from e6)
    exact (fF_b (r := 2514) (by decide) rfl).mp e7
  clear m1 m2 m3 m4
  obtain ⟨b15, g, e15, w, l⟩ := f0
  cases e15
  obtain ⟨b16, e16, g6, R6, w6, o6, r0, r1, r2, r3⟩ := f1
  cases e16
  obtain rfl := fMe_u w6 w
  obtain rfl := fOb_i o6 s1 t1
  obtain ⟨b17, g7, e17, w7, m7, rr, gw, o7, u1, u2, u3, u4, u5⟩ := f3
  cases e17
  obtain rfl := fMe_u w7 w
  obtain ⟨b18, i18, g8, e18, w8, l8⟩ := f4
  cases e18
  obtain rfl := fMe_u w8 w
  obtain ⟨b19, e19, g9, P9, S9, w9, o9, o10, k1, k2, k3⟩ := f2
  cases e19
  obtain rfl := fMe_u w9 w
  obtain rfl := fOb_i o9 s2 t2
  obtain rfl := fOb_i o10 s0 t0
  have hc := fBo_c hH b0 d0 s0
  subst hc
  rw [s0] at s1 s2 s3
  cases s1
  cases s2
  cases s3
  obtain ⟨r, ⟨ha, hk, c7, fs7, e7, e8⟩, l1, l2, l3⟩ := w
  rw [s0] at e7
  cases e7
  obtain ⟨-, -, c9, fs9, e9, e10⟩ := o7
  rw [s0] at e9
  cases e9
  have q0 : fB K n (p) 127 [fR x0] σ := by
    refine ⟨_, rfl, (g9, fun k => if k = 2 then x4 else if k = 3 then x5 else if k = 4 then x1 else if k = 5 then x2 else if k = 12 then gw 0 else gw 1), ⟨b0, d0, _, r, g9, s0, e8, l1, l2, l3, fun i _ => rfl, t0, t1, t2, t3, rr, gw, e10, u1, u2, u3, rfl, rfl⟩, ⟨Or.inr ?_, ?_, ⟨b4, d4⟩, ⟨b5, d5⟩, fun i hi => ?_⟩, ⟨b2, d2⟩⟩
    · show 0 ≤ x1.toInt ∧ (g9 x1.toInt.toNat).toInt = 0 ∧ (g9 (if x4.toInt = 0 then x1.toInt - 8 else x1.toInt + 8).toNat).toInt = 8 * (1 - x4.toInt) + 1 ∧ (x4.toInt = 0 → 40 ≤ x1.toInt ∧ x1.toInt ≤ 47) ∧ (x4.toInt = 1 → 16 ≤ x1.toInt ∧ x1.toInt ≤ 23)
      rcases k3 with ⟨y1, y2, y3, y4⟩ | ⟨y1, y2, y3, y4⟩
      · rw [if_pos y1]
        exact ⟨k1, k2, by omega, by omega, by omega⟩
      · rw [if_neg (by omega)]
        exact ⟨k1, k2, by omega, by omega, by omega⟩
    · intro s hs
      rcases s with _ | _ | s
      · refine ⟨fun h => ?_, fun h => ?_, u4⟩
        · have h9 := r0 (by simpa using h)
          exact ⟨by simpa using h9.1, by simpa using h9.2⟩
        · have h9 := r1 (by simpa using h)
          exact ⟨by simpa using h9.1, by simpa using h9.2⟩
      · refine ⟨fun h => ?_, fun h => ?_, u5⟩
        · have h9 := r2 (by simpa using h)
          exact ⟨by simpa using h9.1, by simpa using h9.2⟩
        · have h9 := r3 (by simpa using h)
          exact ⟨by simpa using h9.1, by simpa using h9.2⟩
      · omega
    · obtain ⟨a1, a2, a3, a4⟩ := l i hi
      refine ⟨a1, a2, a3, a4, ?_⟩
      by_cases c1 : i < 8
      · have := (l8 i (by omega)).1
        exact Or.inl this
      · by_cases c2 : i ≤ 55
        · exact Or.inr ⟨by omega, c2⟩
        · have := (l8 (i - 56) (by omega)).2
          rw [show 56 + (i - 56) = i by omega] at this
          exact Or.inl this
  exact ⟨p, fun _ => rfl, ⟨(fun q h => by cases h), fun q h => (by cases h), (fun f h => by cases h), (aAllc ⟨_, rfl, (fF_b (r := 2033) (by decide) rfl).mpr q0⟩ (fun f h => by cases h))⟩, [], List.mem_cons_self, fun f h => (by cases h)⟩
set_option maxRecDepth 8192 in
theorem rw_ruSFz {K : Nat → Nat} {n : Nat} : aGho (fF K n) fa_T K n (fJX K n) ag_ruSFz := by
  refine aGho_of ⟨rfl, rfl⟩ ?_
  intro p σ ρ hH hX hA hM
  have hG := aAG_of hA.1 (fun i e v he hv => (hA.2 i e v he hv).1)
  clear hA
  obtain ⟨v0, v1, rfl, g0, g1⟩ := fA_2 hG
  clear hG
  obtain ⟨x0, rfl, b0, d0⟩ := fG_ref (by decide) g0
  obtain ⟨x1, rfl, b1, d1⟩ := fG_ref (by decide) g1
  obtain ⟨m1, m2, m3, m4⟩ := hM
  obtain ⟨a0, c0, fs0, w0, e1, s0, t0, e4⟩ := m1 (0, 0, 1) (List.mem_of_getElem? (i := 0) rfl)
  obtain rfl : x0 = a0 := Sum.inl.inj (Option.some.inj (Sum.inr.inj (Sum.inr.inj (Option.some.inj (show some (fR x0) = some _ from e1)))))
  obtain rfl : fR x1 = w0 := Option.some.inj (show some (fR x1) = some w0 from e4)
  clear e1 e4
  have f0 : fB K n p 145 [fR x1] σ := by
    obtain ⟨w, e6, e7⟩ := m4 (2321, [1]) (List.mem_of_getElem? (i := 0) rfl)
    obtain rfl : [fR x1] = w := Option.some.inj (show some [fR x1] = some w from e6)
    exact (fF_b (r := 2321) (by decide) rfl).mp e7
  clear m1 m2 m3 m4
  obtain ⟨r, g, e, l1, l2, l3, l4⟩ := f0
  cases e
  have q0 : fB K n (p) 160 [fR x0] σ := by
    exact ⟨by decide, _, g, rfl, ⟨_, ⟨b0, d0, _, _, s0, t0⟩, l1, l2, l3⟩, fun j hj => by rw [l4 j hj]; rfl⟩
  exact ⟨p, fun _ => rfl, ⟨(fun q h => by cases h), fun q h => (by cases h), (fun f h => by cases h), (aAllc ⟨_, rfl, (fF_b (r := 2561) (by decide) rfl).mpr q0⟩ (fun f h => by cases h))⟩, [], List.mem_cons_self, fun f h => (by cases h)⟩
set_option maxRecDepth 8192 in
theorem rw_ruSFe {K : Nat → Nat} {n : Nat} : aGho (fF K n) fa_T K n (fJX K n) ag_ruSFe := by
  refine aGho_of ⟨rfl, rfl⟩ ?_
  intro p σ ρ hH hX hA hM
  have hG := aAG_of hA.1 (fun i e v he hv => (hA.2 i e v he hv).1)
  clear hA
  obtain ⟨v0, v1, v2, v3, v4, rfl, g0, g1, g2, g3, g4⟩ := fA_5 hG
  clear hG
  obtain ⟨x0, rfl, b0, d0⟩ := fG_ref (by decide) g0
  obtain ⟨x1, rfl, b1, d1⟩ := aG_int g1
  dsimp only at b1 d1
  obtain ⟨x2, rfl, b2, d2⟩ := aG_int g2
  dsimp only at b2 d2
  obtain ⟨x3, rfl, b3, d3⟩ := aG_int g3
  dsimp only at b3 d3
  obtain ⟨x4, rfl, b4, d4⟩ := aG_int g4
  dsimp only at b4 d4
  obtain ⟨m1, m2, m3, m4⟩ := hM
  obtain ⟨a0, c0, fs0, w0, e1, s0, t0, e4⟩ := m1 (0, 4, 1) (List.mem_of_getElem? (i := 0) rfl)
  obtain rfl : x0 = a0 := Sum.inl.inj (Option.some.inj (Sum.inr.inj (Sum.inr.inj (Option.some.inj (show some (fR x0) = some _ from e1)))))
  obtain rfl : fI x1 = w0 := Option.some.inj (show some (fI x1) = some w0 from e4)
  clear e1 e4
  obtain ⟨a1, c1, fs1, w1, e1, s1, t1, e4⟩ := m1 (0, 5, 2) (List.mem_of_getElem? (i := 1) rfl)
  obtain rfl : x0 = a1 := Sum.inl.inj (Option.some.inj (Sum.inr.inj (Sum.inr.inj (Option.some.inj (show some (fR x0) = some _ from e1)))))
  obtain rfl : fI x2 = w1 := Option.some.inj (show some (fI x2) = some w1 from e4)
  clear e1 e4
  obtain ⟨a2, c2, fs2, w2, e1, s2, t2, e4⟩ := m1 (0, 2, 3) (List.mem_of_getElem? (i := 2) rfl)
  obtain rfl : x0 = a2 := Sum.inl.inj (Option.some.inj (Sum.inr.inj (Sum.inr.inj (Option.some.inj (show some (fR x0) = some _ from e1)))))
  obtain rfl : fI x3 = w2 := Option.some.inj (show some (fI x3) = some w2 from e4)
  clear e1 e4
  obtain ⟨a3, c3, fs3, w3, e1, s3, t3, e4⟩ := m1 (0, 3, 4) (List.mem_of_getElem? (i := 3) rfl)
  obtain rfl : x0 = a3 := Sum.inl.inj (Option.some.inj (Sum.inr.inj (Sum.inr.inj (Option.some.inj (show some (fR x0) = some _ from e1)))))
  obtain rfl : fI x4 = w3 := Option.some.inj (show some (fI x4) = some w3 from e4)
  clear e1 e4
  have f0 : fB K n p 192 [fR x0] σ := by
    obtain ⟨w, e6, e7⟩ := m4 (3073, [0]) (List.mem_of_getElem? (i := 0) rfl)
    obtain rfl : [fR x0] = w := Option.some.inj (show some [fR x0] = some w from e6)
    exact (fF_b (r := 3073) (by decide) rfl).mp e7
  have f1 : fB K n p 154 [fR x0] σ := by
    obtain ⟨w, e6, e7⟩ := m4 (2465, [0]) (List.mem_of_getElem? (i := 1) rfl)
    obtain rfl : [fR x0] = w := Option.some.inj (show some [fR x0] = some w from e6)
    exact (fF_b (r := 2465) (by decide) rfl).mp e7
  clear m1 m2 m3 m4
  obtain ⟨-, b, g, e, w, l⟩ := f0
  cases e
  have hc := fBo_c hH b0 d0 s0
  subst hc
  rw [s0] at s1 s2 s3
  cases s1
  cases s2
  cases s3
  obtain ⟨b17, g7, e17, w7, m7, rr, gw, o7, u1, u2, u3, u4, u5⟩ := f1
  cases e17
  obtain rfl := fMe_u w7 w
  obtain ⟨r, ⟨ha, hk, c7, fs7, e7, e8⟩, l1, l2, l3⟩ := w
  rw [s0] at e7
  cases e7
  obtain ⟨-, -, c9, fs9, e9, e10⟩ := o7
  rw [s0] at e9
  cases e9
  have q0 : fB K n (p) 127 [fR x0] σ := by
    refine ⟨_, rfl, (g7, fun k => if k = 2 then x3 else if k = 3 then x4 else if k = 4 then x1 else if k = 5 then x2 else if k = 12 then gw 0 else gw 1), ⟨b0, d0, _, r, g7, s0, e8, l1, l2, l3, fun i _ => rfl, t2, t3, t0, t1, rr, gw, e10, u1, u2, u3, rfl, rfl⟩, ⟨Or.inl (show x1.toInt = -1 by omega), fun s hs => ?_, ⟨show 0 ≤ x3.toInt by omega, show x3.toInt ≤ 1 by omega⟩, ⟨show 0 ≤ x4.toInt by omega, show x4.toInt ≤ 15 by omega⟩, fun i hi => ?_⟩, ⟨show 0 ≤ x2.toInt by omega, show x2.toInt ≤ 999 by omega⟩⟩
    · rcases s with _ | _ | s
      · exact ⟨fun _ => ⟨(l 4 (by decide)).trans rfl, (l 7 (by decide)).trans rfl⟩, fun _ => ⟨(l 4 (by decide)).trans rfl, (l 0 (by decide)).trans rfl⟩, u4⟩
      · exact ⟨fun _ => ⟨(l 60 (by decide)).trans rfl, (l 63 (by decide)).trans rfl⟩, fun _ => ⟨(l 60 (by decide)).trans rfl, (l 56 (by decide)).trans rfl⟩, u5⟩
      · omega
    · have h1 := l i hi
      have h2 := fFst_ok i hi
      rw [← h1] at h2
      exact h2
  exact ⟨p, fun _ => rfl, ⟨(fun q h => by cases h), fun q h => (by cases h), (fun f h => by cases h), (aAllc ⟨_, rfl, (fF_b (r := 2033) (by decide) rfl).mpr q0⟩ (fun f h => by cases h))⟩, [], List.mem_cons_self, fun f h => (by cases h)⟩
set_option maxRecDepth 8192 in
theorem rw_ruBF1 {K : Nat → Nat} {n : Nat} : aGho (fF K n) fa_T K n (fJX K n) ag_ruBF1 := by
  refine aGho_of ⟨rfl, rfl⟩ ?_
  intro p σ ρ hH hX hA hM
  have hG := aAG_of hA.1 (fun i e v he hv => (hA.2 i e v he hv).1)
  clear hA
  obtain ⟨v0, v1, rfl, g0, g1⟩ := fA_2 hG
  clear hG
  obtain ⟨x0, rfl, b0, d0⟩ := aG_int g0
  dsimp only at b0 d0
  obtain ⟨x1, rfl, b1, d1⟩ := fG_ref (by decide) g1
  obtain ⟨m1, m2, m3, m4⟩ := hM
  have f0 : fB K n p 127 [fR x1] σ := by
    obtain ⟨w, e6, e7⟩ := m4 (2033, [1]) (List.mem_of_getElem? (i := 0) rfl)
    obtain rfl : [fR x1] = w := Option.some.inj (show some [fR x1] = some w from e6)
    exact (fF_b (r := 2033) (by decide) rfl).mp e7
  clear m1 m2 m3 m4
  obtain ⟨b, e, h⟩ := f0
  cases e
  have q0 : fB K n (p) 128 [fI x0, fR x1] σ := by
    exact ⟨_, _, rfl, Or.inr h⟩
  exact ⟨p, fun _ => rfl, ⟨(fun q h => by cases h), fun q h => (by cases h), (fun f h => by cases h), (aAllc ⟨_, rfl, (fF_b (r := 2050) (by decide) rfl).mpr q0⟩ (fun f h => by cases h))⟩, [], List.mem_cons_self, fun f h => (by cases h)⟩
set_option maxRecDepth 8192 in
theorem rw_ruBF2 {K : Nat → Nat} {n : Nat} : aGho (fF K n) fa_T K n (fJX K n) ag_ruBF2 := by
  refine aGho_of ⟨rfl, rfl⟩ ?_
  intro p σ ρ hH hX hA hM
  have hG := aAG_of hA.1 (fun i e v he hv => (hA.2 i e v he hv).1)
  clear hA
  obtain ⟨v0, v1, rfl, g0, g1⟩ := fA_2 hG
  clear hG
  obtain ⟨x0, rfl, b0, d0⟩ := aG_int g0
  dsimp only at b0 d0
  obtain ⟨x1, rfl, b1, d1⟩ := fG_ref (by decide) g1
  obtain ⟨m1, m2, m3, m4⟩ := hM
  clear m1 m2 m3 m4
  have q0 : fB K n (p) 128 [fI x0, fR x1] σ := by
    exact ⟨_, _, rfl, Or.inl (by omega)⟩
  exact ⟨p, fun _ => rfl, ⟨(fun q h => by cases h), fun q h => (by cases h), (fun f h => by cases h), (aAllc ⟨_, rfl, (fF_b (r := 2050) (by decide) rfl).mpr q0⟩ (fun f h => by cases h))⟩, [], List.mem_cons_self, fun f h => (by cases h)⟩

