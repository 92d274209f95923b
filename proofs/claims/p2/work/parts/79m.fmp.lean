/-! put, by hand -/
theorem fBd_fr0 {K : Nat → Nat} {n : Nat} {σ : Nat → jcell} {a n0 : Nat} (hl : fLay K n σ a n0) {F : Nat → Int32} {A A' : Nat → Nat → Int32} {L L' : Nat → Nat → Int64} (hσ : σ = bdP σ a n0 F A L) : aFr K n [] σ (bdP σ a n0 F A' L') := by
  obtain ⟨h1, h2, h3, -⟩ := hl
  intro b hbn c fs h0
  by_cases e : b = a
  · subst e
    rw [hσ, fBd_a] at h0
    cases h0
    exact ⟨bd_fl n0 F, fBd_a, rfl, fun f v hv _ => hv⟩
  · by_cases e2 : n0 ≤ b ∧ b < n0 + 11
    · obtain ⟨j, rfl⟩ : ∃ j, b = n0 + j := ⟨b - n0, by omega⟩
      have hj : j < 11 := by omega
      rw [hσ, fBd_r h1 hj] at h0
      match j, hj, h0 with
      | 0, _, h0 => exact absurd (show (.inl (.int, 64, .inl (A 0)) : jcell) = .inr (c, fs) from h0) (by intro h; cases h)
      | 1, _, h0 => exact absurd (show (.inl (.int, 2, .inl (A 1)) : jcell) = .inr (c, fs) from h0) (by intro h; cases h)
      | 2, _, h0 => exact absurd (show (.inl (.long, 4, .inr (.inl (L 2))) : jcell) = .inr (c, fs) from h0) (by intro h; cases h)
      | 3, _, h0 => exact absurd (show (.inl (.int, 2, .inl (A 3)) : jcell) = .inr (c, fs) from h0) (by intro h; cases h)
      | 4, _, h0 => exact absurd (show (.inl (.int, 16, .inl (A 4)) : jcell) = .inr (c, fs) from h0) (by intro h; cases h)
      | 5, _, h0 => exact absurd (show (.inl (.int, 2, .inl (A 5)) : jcell) = .inr (c, fs) from h0) (by intro h; cases h)
      | 6, _, h0 => exact absurd (show (.inl (.int, 1024, .inl (A 6)) : jcell) = .inr (c, fs) from h0) (by intro h; cases h)
      | 7, _, h0 => exact absurd (show (.inl (.int, 512, .inl (A 7)) : jcell) = .inr (c, fs) from h0) (by intro h; cases h)
      | 8, _, h0 => exact absurd (show (.inl (.int, 512, .inl (A 8)) : jcell) = .inr (c, fs) from h0) (by intro h; cases h)
      | 9, _, h0 => exact absurd (show (.inl (.long, 1280, .inr (.inl (L 9))) : jcell) = .inr (c, fs) from h0) (by intro h; cases h)
      | 10, _, h0 => exact absurd (show (.inl (.int, 320, .inl (A 10)) : jcell) = .inr (c, fs) from h0) (by intro h; cases h)
    · exact ⟨fs, by rw [fBd_n e e2]; exact h0, rfl, fun f v hv _ => hv⟩
theorem fPutX {l : Launch} {E : jE} {K : Nat → Nat} {n : Nat} {σ : Nat → jcell} (hH : aH fa_T K n σ) (hX : fJX K n σ) {a : Nat} (ha : a < n) (hka : K a = 26) {s m : Int32} (hs : 0 ≤ s.toInt ∧ s.toInt ≤ 63) (hm : 1 ≤ m.toInt ∧ m.toInt ≤ 14) {g : Nat → Int32} (hg : fMe K n σ a g) (hw : fWx K n σ a g) (h0 : (g s.toInt.toNat).toInt = 0) : jMet l E jcl jtb lw_tbl y_BO_put { } [fR a, fI s, fI m] σ n (fun r σ' n' => n' = n ∧ aH fa_T K n σ' ∧ fJX K n σ' ∧ aFr K n [] σ σ' ∧ (∀ ρ, aFa K n [(27, ([], 0)), (28, ([], 0)), (29, ([], 0)), (30, ([], 0)), (31, ([], 0)), (32, ([], 0))] ρ σ σ') ∧ r = none ∧ fMe K n σ' a (upd g s.toInt.toNat m) ∧ fWx K n σ' a (upd g s.toInt.toNat m)) := by
  obtain ⟨n0, hl⟩ := hX.2.2.1 a ha hka
  obtain ⟨F0, A, L, hσ⟩ := fBd_in hH ha hka hl
  have hsa : σ a = .inr (10, bd_fl n0 F0) := (congrFun hσ a).trans fBd_a
  obtain ⟨r, ⟨-, -, c, fs, e1, e2⟩, l1, l2, l3⟩ := hg
  rw [hsa] at e1
  cases e1
  obtain rfl : n0 = r := fR_inj e2
  have r3 : σ (n0 + 0) = bd_c A L 0 := (congrFun hσ (n0 + 0)).trans (fBd_r hl.1 (by decide))
  have r4 : (.inl (.int, 64, .inl g) : jcell) = .inl (.int, 64, .inl (A 0)) := l3.symm.trans r3
  cases r4
  obtain ⟨hr, rw9, w9, ⟨-, -, c, fs, e1, e2⟩, k1, k2, k3, k4, k5⟩ := hw
  rw [hsa] at e1
  cases e1
  obtain rfl : n0 + 3 = rw9 := fR_inj e2
  have u3 : σ (n0 + 3) = bd_c A L 3 := (congrFun hσ (n0 + 3)).trans (fBd_r hl.1 (by decide))
  have u4 : (.inl (.int, 2, .inl w9) : jcell) = .inl (.int, 2, .inl (A 3)) := k3.symm.trans u3
  cases u4
  obtain ⟨g6, t1, t2⟩ := hX.2.2.2 (n0 + 6) (by have := hl.2.1; omega) (hl.2.2.1 6 (by decide))
  have t3 : σ (n0 + 6) = bd_c A L 6 := (congrFun hσ (n0 + 6)).trans (fBd_r hl.1 (by decide))
  have t4 : (.inl (.int, 1024, .inl g6) : jcell) = .inl (.int, 1024, .inl (A 6)) := t1.symm.trans t3
  cases t4
  have rk : kOK (A 1) := fun i hi => by
    have k1 : σ (n0 + 1) = bd_c A L 1 := (congrFun hσ (n0 + 1)).trans (fBd_r hl.1 (by decide))
    have k2 := hH (n0 + 1) (by have := hl.2.1; omega) _ (show fa_T[K (n0 + 1)]? = some _ by rw [hl.2.2.1 1 (by decide)]; rfl)
    rw [k1] at k2
    obtain ⟨-, -, -, k3⟩ := k2
    have k4 := (k3 i hi).1
    have k5 : 0 ≤ (A 1 i).toInt ∧ (A 1 i).toInt ≤ 63 := k4
    exact ⟨(A 1 i).toNatClampNeg, by rw [fNc]; omega, fNi k5.1⟩
  have hfs := hH a ha _ (show fa_T[K a]? = some _ by rw [hka]; rfl)
  rw [hsa] at hfs
  obtain ⟨-, hf⟩ := hfs
  obtain ⟨x2, z2, q2⟩ := fFld hf (i := 2) rfl
  obtain ⟨x3, z3, q3⟩ := fFld hf (i := 3) rfl
  obtain ⟨x4, z4, q4⟩ := fFld hf (i := 4) rfl
  obtain ⟨x5, z5, q5⟩ := fFld hf (i := 5) rfl
  cases (show some (.inl (F0 2) : jv) = some (.inl x2) from z2)
  cases (show some (.inl (F0 3) : jv) = some (.inl x3) from z3)
  cases (show some (.inl (F0 4) : jv) = some (.inl x4) from z4)
  cases (show some (.inl (F0 5) : jv) = some (.inl x5) from z5)
  have hws : bWs A := fun c hc => by
    have c2 : c = 0 ∨ c = 1 := by omega
    rcases c2 with rfl | rfl
    · rw [k4]; exact (fBw t2 (fun i _ => rfl) hr 64 (Nat.le_refl _)).symm
    · rw [k5]; exact (fBw t2 (fun i _ => rfl) hr 64 (Nat.le_refl _)).symm
  have es : s = nI s.toNatClampNeg := fNi hs.1
  have em : m = nI m.toNatClampNeg := fNi (by omega)
  have hsn : s.toNatClampNeg = s.toInt.toNat := rfl
  have hmn : m.toNatClampNeg = m.toInt.toNat := rfl
  have hj := c_BO_put2 l E σ n a n0 hl.1 hl.2.1 F0 A L s.toNatClampNeg m.toNatClampNeg (by omega) (by omega)
  rw [← hσ, ← es, ← em] at hj
  refine jMet_post hj (fun r σ' n' hp => ?_)
  obtain ⟨A', L', rfl, rfl, rfl, hbk, hA0, hK, hW⟩ := hp
  clear hj
  rw [hsn] at hA0
  have hz : A 0 s.toNatClampNeg = 0 := Int32.toInt_inj.mp (by rw [hsn, h0]; rfl)
  have hws' := hW hz (by omega) hws
  have hr' : ∀ j : Nat, j < 64 → 0 ≤ (upd (A 0) s.toInt.toNat m j).toInt ∧ (upd (A 0) s.toInt.toNat m j).toInt ≤ 14 := fun j hj => by
    unfold upd
    split
    · omega
    · exact hr j hj
  have hmk : menOK (A' 0) := fun i hi => by
    have y := hr' i hi
    rw [← hA0] at y
    exact ⟨(A' 0 i).toNatClampNeg, by rw [fNc]; omega, fNi y.1⟩
  have cw : ∀ c, c < 2 → A' 3 c = bSn fWa c (upd (A 0) s.toInt.toNat m) 64 := fun c hc => by
    rw [hws' c hc, hbk.1, hA0]
    exact fBw t2 (fun i _ => rfl) hr' 64 (Nat.le_refl _)
  refine ⟨rfl, fBd_out hH ha hka hl hσ hmk (hK rk) hbk q2 q3 q4 q5 rfl, fBd_jx hH ha hka hl hσ hbk hX, fBd_fr0 hl hσ, fun ρ => fBd_fa hH ha hka hl hσ hbk ρ, rfl, ?_, ?_⟩
  · rw [← hA0]
    exact ⟨n0, ⟨ha, hka, 10, bd_fl n0 F0, fBd_a, rfl⟩, by have := hl.2.1; omega, hl.2.2.1 0 (by decide), fBd_r (j := 0) hl.1 (by decide)⟩
  · exact ⟨hr', n0 + 3, A' 3, ⟨ha, hka, 10, bd_fl n0 F0, fBd_a, rfl⟩, by have := hl.2.1; omega, hl.2.2.1 3 (by decide), fBd_r (j := 3) hl.1 (by decide), cw 0 (by decide), cw 1 (by decide)⟩
theorem ae_BOputW1 {l : Launch} {E : jE} {K : Nat → Nat} {n : Nat} : aMe (fF K n) l E jcl jtb lw_tbl fa_T K n (fJX K n) ag_BOputW1 := by
  intro p σ ρ hH hX hA hM
  have hG := aAG_of hA.1 (fun i e v he hv => (hA.2 i e v he hv).1)
  clear hA
  obtain ⟨v0, v1, v2, rfl, g0, g1, g2⟩ := fA_3 hG
  clear hG
  obtain ⟨a, rfl, ha, hka⟩ := fG_ref (by decide) g0
  obtain ⟨s, rfl, bs, ds⟩ := aG_int g1
  obtain ⟨m, rfl, bm, dm⟩ := aG_int g2
  dsimp only at bs ds bm dm
  obtain ⟨-, -, -, m4⟩ := hM
  have f0 : fB K n p 137 [fR a] σ := by
    obtain ⟨w, e6, e7⟩ := m4 (2193, [0]) (List.mem_of_getElem? (i := 0) rfl)
    obtain rfl : [fR a] = w := Option.some.inj (show some [fR a] = some w from e6)
    exact (fF_b (r := 2193) (by decide) rfl).mp e7
  have f1 : fB K n p 154 [fR a] σ := by
    obtain ⟨w, e6, e7⟩ := m4 (2465, [0]) (List.mem_of_getElem? (i := 1) rfl)
    obtain rfl : [fR a] = w := Option.some.inj (show some [fR a] = some w from e6)
    exact (fF_b (r := 2465) (by decide) rfl).mp e7
  have f2 : fB K n p 155 [fR a, fI s] σ := by
    obtain ⟨w, e6, e7⟩ := m4 (2482, [0, 1]) (List.mem_of_getElem? (i := 2) rfl)
    obtain rfl : [fR a, fI s] = w := Option.some.inj (show some [fR a, fI s] = some w from e6)
    exact (fF_b (r := 2482) (by decide) rfl).mp e7
  clear m4
  obtain ⟨b, g, e, w, l0⟩ := f0
  cases e
  obtain ⟨b, g9, e, w9, u⟩ := f1
  cases e
  obtain rfl := fMe_u w9 w
  obtain ⟨b, s8, g8, e, w8, l8⟩ := f2
  cases e
  obtain rfl := fMe_u w8 w
  refine jMet_post (fPutX hH hX ha hka ⟨bs, ds⟩ ⟨by omega, by omega⟩ w u (l8 _ (by omega) (Or.inr ⟨rfl, Nat.le_refl _⟩))) (fun r σ' n' hp => ?_)
  obtain ⟨rfl, p1, p2, p3, p4, rfl, p5, p6⟩ := hp
  refine ⟨rfl, p1, p2, p3, p4 _, rfl, [], ?_, ?_, [], List.mem_cons_self, fun f h => (by cases h)⟩
  · refine ⟨rfl, fun i e v he hv => ?_⟩
    match i, he, hv with
    | 0, he, hv => obtain rfl := Option.some.inj he; obtain rfl := Option.some.inj hv; exact ⟨⟨ha, Or.inl hka⟩, trivial⟩
    | 1, he, hv => obtain rfl := Option.some.inj he; obtain rfl := Option.some.inj hv; exact ⟨⟨bs, ds⟩, trivial⟩
    | 2, he, hv => obtain rfl := Option.some.inj he; obtain rfl := Option.some.inj hv; exact ⟨⟨bm, dm⟩, trivial⟩
    | k + 3, he, hv => simp [aPe, ag_BOputW1] at he
  · refine ⟨fun q h => (by cases h), fun q h => (by cases h), fun q h => (by cases h), (aAllc ⟨_, rfl, (fF_b (r := 2193) (by decide) rfl).mpr ?_⟩ (aAllc ⟨_, rfl, (fF_b (r := 2465) (by decide) rfl).mpr ?_⟩ (aAllc ⟨_, rfl, (fF_b (r := 2306) (by decide) rfl).mpr ?_⟩ (fun f h => by cases h))))⟩
    · refine ⟨_, _, rfl, p5, fun j hj => ?_⟩
      unfold upd
      split
      · unfold fOm; omega
      · exact l0 j hj
    · exact ⟨_, _, rfl, p5, p6⟩
    · refine ⟨_, _, _, rfl, p5, fun j hj h => ?_⟩
      unfold upd
      rw [if_neg (by omega)]
      exact l8 j hj (by omega)
theorem ae_BOputW9 {l : Launch} {E : jE} {K : Nat → Nat} {n : Nat} : aMe (fF K n) l E jcl jtb lw_tbl fa_T K n (fJX K n) ag_BOputW9 := by
  intro p σ ρ hH hX hA hM
  have hG := aAG_of hA.1 (fun i e v he hv => (hA.2 i e v he hv).1)
  clear hA
  obtain ⟨v0, v1, v2, rfl, g0, g1, g2⟩ := fA_3 hG
  clear hG
  obtain ⟨a, rfl, ha, hka⟩ := fG_ref (by decide) g0
  obtain ⟨s, rfl, bs, ds⟩ := aG_int g1
  obtain ⟨m, rfl, bm, dm⟩ := aG_int g2
  dsimp only at bs ds bm dm
  obtain ⟨-, -, -, m4⟩ := hM
  have f0 : fB K n p 137 [fR a] σ := by
    obtain ⟨w, e6, e7⟩ := m4 (2193, [0]) (List.mem_of_getElem? (i := 0) rfl)
    obtain rfl : [fR a] = w := Option.some.inj (show some [fR a] = some w from e6)
    exact (fF_b (r := 2193) (by decide) rfl).mp e7
  have f1 : fB K n p 154 [fR a] σ := by
    obtain ⟨w, e6, e7⟩ := m4 (2465, [0]) (List.mem_of_getElem? (i := 1) rfl)
    obtain rfl : [fR a] = w := Option.some.inj (show some [fR a] = some w from e6)
    exact (fF_b (r := 2465) (by decide) rfl).mp e7
  have f2 : fB K n p 155 [fR a, fI s] σ := by
    obtain ⟨w, e6, e7⟩ := m4 (2482, [0, 1]) (List.mem_of_getElem? (i := 2) rfl)
    obtain rfl : [fR a, fI s] = w := Option.some.inj (show some [fR a, fI s] = some w from e6)
    exact (fF_b (r := 2482) (by decide) rfl).mp e7
  clear m4
  obtain ⟨b, g, e, w, l0⟩ := f0
  cases e
  obtain ⟨b, g9, e, w9, u⟩ := f1
  cases e
  obtain rfl := fMe_u w9 w
  obtain ⟨b, s8, g8, e, w8, l8⟩ := f2
  cases e
  obtain rfl := fMe_u w8 w
  refine jMet_post (fPutX hH hX ha hka ⟨bs, ds⟩ ⟨by omega, by omega⟩ w u (l8 _ (by omega) (Or.inr ⟨rfl, Nat.le_refl _⟩))) (fun r σ' n' hp => ?_)
  obtain ⟨rfl, p1, p2, p3, p4, rfl, p5, p6⟩ := hp
  refine ⟨rfl, p1, p2, p3, p4 _, rfl, [], ?_, ?_, [], List.mem_cons_self, fun f h => (by cases h)⟩
  · refine ⟨rfl, fun i e v he hv => ?_⟩
    match i, he, hv with
    | 0, he, hv => obtain rfl := Option.some.inj he; obtain rfl := Option.some.inj hv; exact ⟨⟨ha, Or.inl hka⟩, trivial⟩
    | 1, he, hv => obtain rfl := Option.some.inj he; obtain rfl := Option.some.inj hv; exact ⟨⟨bs, ds⟩, trivial⟩
    | 2, he, hv => obtain rfl := Option.some.inj he; obtain rfl := Option.some.inj hv; exact ⟨⟨bm, dm⟩, trivial⟩
    | k + 3, he, hv => simp [aPe, ag_BOputW9] at he
  · refine ⟨fun q h => (by cases h), fun q h => (by cases h), fun q h => (by cases h), (aAllc ⟨_, rfl, (fF_b (r := 2193) (by decide) rfl).mpr ?_⟩ (aAllc ⟨_, rfl, (fF_b (r := 2465) (by decide) rfl).mpr ?_⟩ (aAllc ⟨_, rfl, (fF_b (r := 2306) (by decide) rfl).mpr ?_⟩ (fun f h => by cases h))))⟩
    · refine ⟨_, _, rfl, p5, fun j hj => ?_⟩
      unfold upd
      split
      · unfold fOm; omega
      · exact l0 j hj
    · exact ⟨_, _, rfl, p5, p6⟩
    · refine ⟨_, _, _, rfl, p5, fun j hj h => ?_⟩
      unfold upd
      rw [if_neg (by omega)]
      exact l8 j hj (by omega)
theorem ae_BOputS0 {l : Launch} {E : jE} {K : Nat → Nat} {n : Nat} : aMe (fF K n) l E jcl jtb lw_tbl fa_T K n (fJX K n) ag_BOputS0 := by
  intro p σ ρ hH hX hA hM
  have hG := aAG_of hA.1 (fun i e v he hv => (hA.2 i e v he hv).1)
  clear hA
  obtain ⟨v0, v1, v2, rfl, g0, g1, g2⟩ := fA_3 hG
  clear hG
  obtain ⟨a, rfl, ha, hka⟩ := fG_ref (by decide) g0
  obtain ⟨s, rfl, bs, ds⟩ := aG_int g1
  obtain ⟨m, rfl, bm, dm⟩ := aG_int g2
  dsimp only at bs ds bm dm
  obtain ⟨-, -, -, m4⟩ := hM
  have f0 : fB K n p 160 [fR a] σ := by
    obtain ⟨w, e6, e7⟩ := m4 (2561, [0]) (List.mem_of_getElem? (i := 0) rfl)
    obtain rfl : [fR a] = w := Option.some.inj (show some [fR a] = some w from e6)
    exact (fF_b (r := 2561) (by decide) rfl).mp e7
  have f1 : fB K n p 154 [fR a] σ := by
    obtain ⟨w, e6, e7⟩ := m4 (2465, [0]) (List.mem_of_getElem? (i := 1) rfl)
    obtain rfl : [fR a] = w := Option.some.inj (show some [fR a] = some w from e6)
    exact (fF_b (r := 2465) (by decide) rfl).mp e7
  clear m4
  obtain ⟨-, b, g, e, w, l0⟩ := f0
  cases e
  obtain ⟨b, g9, e, w9, u⟩ := f1
  cases e
  obtain rfl := fMe_u w9 w
  have hq : s.toInt.toNat = 0 := by omega
  refine jMet_post (fPutX hH hX ha hka ⟨by omega, by omega⟩ ⟨by omega, by omega⟩ w u (by rw [hq]; exact (l0 0 (by decide)).trans rfl)) (fun r σ' n' hp => ?_)
  obtain ⟨rfl, p1, p2, p3, p4, rfl, p5, p6⟩ := hp
  refine ⟨rfl, p1, p2, p3, p4 _, rfl, [], ?_, ?_, [], List.mem_cons_self, fun f h => (by cases h)⟩
  · refine ⟨rfl, fun i e v he hv => ?_⟩
    match i, he, hv with
    | 0, he, hv => obtain rfl := Option.some.inj he; obtain rfl := Option.some.inj hv; exact ⟨⟨ha, Or.inl hka⟩, trivial⟩
    | 1, he, hv => obtain rfl := Option.some.inj he; obtain rfl := Option.some.inj hv; exact ⟨⟨bs, ds⟩, trivial⟩
    | 2, he, hv => obtain rfl := Option.some.inj he; obtain rfl := Option.some.inj hv; exact ⟨⟨bm, dm⟩, trivial⟩
    | k + 3, he, hv => simp [aPe, ag_BOputS0] at he
  · refine ⟨fun q h => (by cases h), fun q h => (by cases h), fun q h => (by cases h), (aAllc ⟨_, rfl, (fF_b (r := 2577) (by decide) rfl).mpr ?_⟩ (aAllc ⟨_, rfl, (fF_b (r := 2465) (by decide) rfl).mpr ?_⟩ (fun f h => by cases h)))⟩
    · refine ⟨by decide, _, _, rfl, p5, fun j hj => ?_⟩
      rw [show 161 - 160 = 1 from rfl, fFst_0 j hj]
      unfold upd
      rw [hq]
      split
      · omega
      · exact l0 j hj
    · exact ⟨_, _, rfl, p5, p6⟩
theorem ae_BOputS1 {l : Launch} {E : jE} {K : Nat → Nat} {n : Nat} : aMe (fF K n) l E jcl jtb lw_tbl fa_T K n (fJX K n) ag_BOputS1 := by
  intro p σ ρ hH hX hA hM
  have hG := aAG_of hA.1 (fun i e v he hv => (hA.2 i e v he hv).1)
  clear hA
  obtain ⟨v0, v1, v2, rfl, g0, g1, g2⟩ := fA_3 hG
  clear hG
  obtain ⟨a, rfl, ha, hka⟩ := fG_ref (by decide) g0
  obtain ⟨s, rfl, bs, ds⟩ := aG_int g1
  obtain ⟨m, rfl, bm, dm⟩ := aG_int g2
  dsimp only at bs ds bm dm
  obtain ⟨-, -, -, m4⟩ := hM
  have f0 : fB K n p 161 [fR a] σ := by
    obtain ⟨w, e6, e7⟩ := m4 (2577, [0]) (List.mem_of_getElem? (i := 0) rfl)
    obtain rfl : [fR a] = w := Option.some.inj (show some [fR a] = some w from e6)
    exact (fF_b (r := 2577) (by decide) rfl).mp e7
  have f1 : fB K n p 154 [fR a] σ := by
    obtain ⟨w, e6, e7⟩ := m4 (2465, [0]) (List.mem_of_getElem? (i := 1) rfl)
    obtain rfl : [fR a] = w := Option.some.inj (show some [fR a] = some w from e6)
    exact (fF_b (r := 2465) (by decide) rfl).mp e7
  clear m4
  obtain ⟨-, b, g, e, w, l0⟩ := f0
  cases e
  obtain ⟨b, g9, e, w9, u⟩ := f1
  cases e
  obtain rfl := fMe_u w9 w
  have hq : s.toInt.toNat = 8 := by omega
  refine jMet_post (fPutX hH hX ha hka ⟨by omega, by omega⟩ ⟨by omega, by omega⟩ w u (by rw [hq]; exact (l0 8 (by decide)).trans rfl)) (fun r σ' n' hp => ?_)
  obtain ⟨rfl, p1, p2, p3, p4, rfl, p5, p6⟩ := hp
  refine ⟨rfl, p1, p2, p3, p4 _, rfl, [], ?_, ?_, [], List.mem_cons_self, fun f h => (by cases h)⟩
  · refine ⟨rfl, fun i e v he hv => ?_⟩
    match i, he, hv with
    | 0, he, hv => obtain rfl := Option.some.inj he; obtain rfl := Option.some.inj hv; exact ⟨⟨ha, Or.inl hka⟩, trivial⟩
    | 1, he, hv => obtain rfl := Option.some.inj he; obtain rfl := Option.some.inj hv; exact ⟨⟨bs, ds⟩, trivial⟩
    | 2, he, hv => obtain rfl := Option.some.inj he; obtain rfl := Option.some.inj hv; exact ⟨⟨bm, dm⟩, trivial⟩
    | k + 3, he, hv => simp [aPe, ag_BOputS1] at he
  · refine ⟨fun q h => (by cases h), fun q h => (by cases h), fun q h => (by cases h), (aAllc ⟨_, rfl, (fF_b (r := 2593) (by decide) rfl).mpr ?_⟩ (aAllc ⟨_, rfl, (fF_b (r := 2465) (by decide) rfl).mpr ?_⟩ (fun f h => by cases h)))⟩
    · refine ⟨by decide, _, _, rfl, p5, fun j hj => ?_⟩
      rw [show 162 - 160 = 2 from rfl, fFst_1 j hj]
      unfold upd
      rw [hq]
      split
      · omega
      · exact l0 j hj
    · exact ⟨_, _, rfl, p5, p6⟩
theorem ae_BOputS2 {l : Launch} {E : jE} {K : Nat → Nat} {n : Nat} : aMe (fF K n) l E jcl jtb lw_tbl fa_T K n (fJX K n) ag_BOputS2 := by
  intro p σ ρ hH hX hA hM
  have hG := aAG_of hA.1 (fun i e v he hv => (hA.2 i e v he hv).1)
  clear hA
  obtain ⟨v0, v1, v2, rfl, g0, g1, g2⟩ := fA_3 hG
  clear hG
  obtain ⟨a, rfl, ha, hka⟩ := fG_ref (by decide) g0
  obtain ⟨s, rfl, bs, ds⟩ := aG_int g1
  obtain ⟨m, rfl, bm, dm⟩ := aG_int g2
  dsimp only at bs ds bm dm
  obtain ⟨-, -, -, m4⟩ := hM
  have f0 : fB K n p 162 [fR a] σ := by
    obtain ⟨w, e6, e7⟩ := m4 (2593, [0]) (List.mem_of_getElem? (i := 0) rfl)
    obtain rfl : [fR a] = w := Option.some.inj (show some [fR a] = some w from e6)
    exact (fF_b (r := 2593) (by decide) rfl).mp e7
  have f1 : fB K n p 154 [fR a] σ := by
    obtain ⟨w, e6, e7⟩ := m4 (2465, [0]) (List.mem_of_getElem? (i := 1) rfl)
    obtain rfl : [fR a] = w := Option.some.inj (show some [fR a] = some w from e6)
    exact (fF_b (r := 2465) (by decide) rfl).mp e7
  clear m4
  obtain ⟨-, b, g, e, w, l0⟩ := f0
  cases e
  obtain ⟨b, g9, e, w9, u⟩ := f1
  cases e
  obtain rfl := fMe_u w9 w
  have hq : s.toInt.toNat = 48 := by omega
  refine jMet_post (fPutX hH hX ha hka ⟨by omega, by omega⟩ ⟨by omega, by omega⟩ w u (by rw [hq]; exact (l0 48 (by decide)).trans rfl)) (fun r σ' n' hp => ?_)
  obtain ⟨rfl, p1, p2, p3, p4, rfl, p5, p6⟩ := hp
  refine ⟨rfl, p1, p2, p3, p4 _, rfl, [], ?_, ?_, [], List.mem_cons_self, fun f h => (by cases h)⟩
  · refine ⟨rfl, fun i e v he hv => ?_⟩
    match i, he, hv with
    | 0, he, hv => obtain rfl := Option.some.inj he; obtain rfl := Option.some.inj hv; exact ⟨⟨ha, Or.inl hka⟩, trivial⟩
    | 1, he, hv => obtain rfl := Option.some.inj he; obtain rfl := Option.some.inj hv; exact ⟨⟨bs, ds⟩, trivial⟩
    | 2, he, hv => obtain rfl := Option.some.inj he; obtain rfl := Option.some.inj hv; exact ⟨⟨bm, dm⟩, trivial⟩
    | k + 3, he, hv => simp [aPe, ag_BOputS2] at he
  · refine ⟨fun q h => (by cases h), fun q h => (by cases h), fun q h => (by cases h), (aAllc ⟨_, rfl, (fF_b (r := 2609) (by decide) rfl).mpr ?_⟩ (aAllc ⟨_, rfl, (fF_b (r := 2465) (by decide) rfl).mpr ?_⟩ (fun f h => by cases h)))⟩
    · refine ⟨by decide, _, _, rfl, p5, fun j hj => ?_⟩
      rw [show 163 - 160 = 3 from rfl, fFst_2 j hj]
      unfold upd
      rw [hq]
      split
      · omega
      · exact l0 j hj
    · exact ⟨_, _, rfl, p5, p6⟩
theorem ae_BOputS3 {l : Launch} {E : jE} {K : Nat → Nat} {n : Nat} : aMe (fF K n) l E jcl jtb lw_tbl fa_T K n (fJX K n) ag_BOputS3 := by
  intro p σ ρ hH hX hA hM
  have hG := aAG_of hA.1 (fun i e v he hv => (hA.2 i e v he hv).1)
  clear hA
  obtain ⟨v0, v1, v2, rfl, g0, g1, g2⟩ := fA_3 hG
  clear hG
  obtain ⟨a, rfl, ha, hka⟩ := fG_ref (by decide) g0
  obtain ⟨s, rfl, bs, ds⟩ := aG_int g1
  obtain ⟨m, rfl, bm, dm⟩ := aG_int g2
  dsimp only at bs ds bm dm
  obtain ⟨-, -, -, m4⟩ := hM
  have f0 : fB K n p 163 [fR a] σ := by
    obtain ⟨w, e6, e7⟩ := m4 (2609, [0]) (List.mem_of_getElem? (i := 0) rfl)
    obtain rfl : [fR a] = w := Option.some.inj (show some [fR a] = some w from e6)
    exact (fF_b (r := 2609) (by decide) rfl).mp e7
  have f1 : fB K n p 154 [fR a] σ := by
    obtain ⟨w, e6, e7⟩ := m4 (2465, [0]) (List.mem_of_getElem? (i := 1) rfl)
    obtain rfl : [fR a] = w := Option.some.inj (show some [fR a] = some w from e6)
    exact (fF_b (r := 2465) (by decide) rfl).mp e7
  clear m4
  obtain ⟨-, b, g, e, w, l0⟩ := f0
  cases e
  obtain ⟨b, g9, e, w9, u⟩ := f1
  cases e
  obtain rfl := fMe_u w9 w
  have hq : s.toInt.toNat = 56 := by omega
  refine jMet_post (fPutX hH hX ha hka ⟨by omega, by omega⟩ ⟨by omega, by omega⟩ w u (by rw [hq]; exact (l0 56 (by decide)).trans rfl)) (fun r σ' n' hp => ?_)
  obtain ⟨rfl, p1, p2, p3, p4, rfl, p5, p6⟩ := hp
  refine ⟨rfl, p1, p2, p3, p4 _, rfl, [], ?_, ?_, [], List.mem_cons_self, fun f h => (by cases h)⟩
  · refine ⟨rfl, fun i e v he hv => ?_⟩
    match i, he, hv with
    | 0, he, hv => obtain rfl := Option.some.inj he; obtain rfl := Option.some.inj hv; exact ⟨⟨ha, Or.inl hka⟩, trivial⟩
    | 1, he, hv => obtain rfl := Option.some.inj he; obtain rfl := Option.some.inj hv; exact ⟨⟨bs, ds⟩, trivial⟩
    | 2, he, hv => obtain rfl := Option.some.inj he; obtain rfl := Option.some.inj hv; exact ⟨⟨bm, dm⟩, trivial⟩
    | k + 3, he, hv => simp [aPe, ag_BOputS3] at he
  · refine ⟨fun q h => (by cases h), fun q h => (by cases h), fun q h => (by cases h), (aAllc ⟨_, rfl, (fF_b (r := 2625) (by decide) rfl).mpr ?_⟩ (aAllc ⟨_, rfl, (fF_b (r := 2465) (by decide) rfl).mpr ?_⟩ (fun f h => by cases h)))⟩
    · refine ⟨by decide, _, _, rfl, p5, fun j hj => ?_⟩
      rw [show 164 - 160 = 4 from rfl, fFst_3 j hj]
      unfold upd
      rw [hq]
      split
      · omega
      · exact l0 j hj
    · exact ⟨_, _, rfl, p5, p6⟩
theorem ae_BOputS4 {l : Launch} {E : jE} {K : Nat → Nat} {n : Nat} : aMe (fF K n) l E jcl jtb lw_tbl fa_T K n (fJX K n) ag_BOputS4 := by
  intro p σ ρ hH hX hA hM
  have hG := aAG_of hA.1 (fun i e v he hv => (hA.2 i e v he hv).1)
  clear hA
  obtain ⟨v0, v1, v2, rfl, g0, g1, g2⟩ := fA_3 hG
  clear hG
  obtain ⟨a, rfl, ha, hka⟩ := fG_ref (by decide) g0
  obtain ⟨s, rfl, bs, ds⟩ := aG_int g1
  obtain ⟨m, rfl, bm, dm⟩ := aG_int g2
  dsimp only at bs ds bm dm
  obtain ⟨-, -, -, m4⟩ := hM
  have f0 : fB K n p 164 [fR a] σ := by
    obtain ⟨w, e6, e7⟩ := m4 (2625, [0]) (List.mem_of_getElem? (i := 0) rfl)
    obtain rfl : [fR a] = w := Option.some.inj (show some [fR a] = some w from e6)
    exact (fF_b (r := 2625) (by decide) rfl).mp e7
  have f1 : fB K n p 154 [fR a] σ := by
    obtain ⟨w, e6, e7⟩ := m4 (2465, [0]) (List.mem_of_getElem? (i := 1) rfl)
    obtain rfl : [fR a] = w := Option.some.inj (show some [fR a] = some w from e6)
    exact (fF_b (r := 2465) (by decide) rfl).mp e7
  clear m4
  obtain ⟨-, b, g, e, w, l0⟩ := f0
  cases e
  obtain ⟨b, g9, e, w9, u⟩ := f1
  cases e
  obtain rfl := fMe_u w9 w
  have hq : s.toInt.toNat = 1 := by omega
  refine jMet_post (fPutX hH hX ha hka ⟨by omega, by omega⟩ ⟨by omega, by omega⟩ w u (by rw [hq]; exact (l0 1 (by decide)).trans rfl)) (fun r σ' n' hp => ?_)
  obtain ⟨rfl, p1, p2, p3, p4, rfl, p5, p6⟩ := hp
  refine ⟨rfl, p1, p2, p3, p4 _, rfl, [], ?_, ?_, [], List.mem_cons_self, fun f h => (by cases h)⟩
  · refine ⟨rfl, fun i e v he hv => ?_⟩
    match i, he, hv with
    | 0, he, hv => obtain rfl := Option.some.inj he; obtain rfl := Option.some.inj hv; exact ⟨⟨ha, Or.inl hka⟩, trivial⟩
    | 1, he, hv => obtain rfl := Option.some.inj he; obtain rfl := Option.some.inj hv; exact ⟨⟨bs, ds⟩, trivial⟩
    | 2, he, hv => obtain rfl := Option.some.inj he; obtain rfl := Option.some.inj hv; exact ⟨⟨bm, dm⟩, trivial⟩
    | k + 3, he, hv => simp [aPe, ag_BOputS4] at he
  · refine ⟨fun q h => (by cases h), fun q h => (by cases h), fun q h => (by cases h), (aAllc ⟨_, rfl, (fF_b (r := 2641) (by decide) rfl).mpr ?_⟩ (aAllc ⟨_, rfl, (fF_b (r := 2465) (by decide) rfl).mpr ?_⟩ (fun f h => by cases h)))⟩
    · refine ⟨by decide, _, _, rfl, p5, fun j hj => ?_⟩
      rw [show 165 - 160 = 5 from rfl, fFst_4 j hj]
      unfold upd
      rw [hq]
      split
      · omega
      · exact l0 j hj
    · exact ⟨_, _, rfl, p5, p6⟩
theorem ae_BOputS5 {l : Launch} {E : jE} {K : Nat → Nat} {n : Nat} : aMe (fF K n) l E jcl jtb lw_tbl fa_T K n (fJX K n) ag_BOputS5 := by
  intro p σ ρ hH hX hA hM
  have hG := aAG_of hA.1 (fun i e v he hv => (hA.2 i e v he hv).1)
  clear hA
  obtain ⟨v0, v1, v2, rfl, g0, g1, g2⟩ := fA_3 hG
  clear hG
  obtain ⟨a, rfl, ha, hka⟩ := fG_ref (by decide) g0
  obtain ⟨s, rfl, bs, ds⟩ := aG_int g1
  obtain ⟨m, rfl, bm, dm⟩ := aG_int g2
  dsimp only at bs ds bm dm
  obtain ⟨-, -, -, m4⟩ := hM
  have f0 : fB K n p 165 [fR a] σ := by
    obtain ⟨w, e6, e7⟩ := m4 (2641, [0]) (List.mem_of_getElem? (i := 0) rfl)
    obtain rfl : [fR a] = w := Option.some.inj (show some [fR a] = some w from e6)
    exact (fF_b (r := 2641) (by decide) rfl).mp e7
  have f1 : fB K n p 154 [fR a] σ := by
    obtain ⟨w, e6, e7⟩ := m4 (2465, [0]) (List.mem_of_getElem? (i := 1) rfl)
    obtain rfl : [fR a] = w := Option.some.inj (show some [fR a] = some w from e6)
    exact (fF_b (r := 2465) (by decide) rfl).mp e7
  clear m4
  obtain ⟨-, b, g, e, w, l0⟩ := f0
  cases e
  obtain ⟨b, g9, e, w9, u⟩ := f1
  cases e
  obtain rfl := fMe_u w9 w
  have hq : s.toInt.toNat = 9 := by omega
  refine jMet_post (fPutX hH hX ha hka ⟨by omega, by omega⟩ ⟨by omega, by omega⟩ w u (by rw [hq]; exact (l0 9 (by decide)).trans rfl)) (fun r σ' n' hp => ?_)
  obtain ⟨rfl, p1, p2, p3, p4, rfl, p5, p6⟩ := hp
  refine ⟨rfl, p1, p2, p3, p4 _, rfl, [], ?_, ?_, [], List.mem_cons_self, fun f h => (by cases h)⟩
  · refine ⟨rfl, fun i e v he hv => ?_⟩
    match i, he, hv with
    | 0, he, hv => obtain rfl := Option.some.inj he; obtain rfl := Option.some.inj hv; exact ⟨⟨ha, Or.inl hka⟩, trivial⟩
    | 1, he, hv => obtain rfl := Option.some.inj he; obtain rfl := Option.some.inj hv; exact ⟨⟨bs, ds⟩, trivial⟩
    | 2, he, hv => obtain rfl := Option.some.inj he; obtain rfl := Option.some.inj hv; exact ⟨⟨bm, dm⟩, trivial⟩
    | k + 3, he, hv => simp [aPe, ag_BOputS5] at he
  · refine ⟨fun q h => (by cases h), fun q h => (by cases h), fun q h => (by cases h), (aAllc ⟨_, rfl, (fF_b (r := 2657) (by decide) rfl).mpr ?_⟩ (aAllc ⟨_, rfl, (fF_b (r := 2465) (by decide) rfl).mpr ?_⟩ (fun f h => by cases h)))⟩
    · refine ⟨by decide, _, _, rfl, p5, fun j hj => ?_⟩
      rw [show 166 - 160 = 6 from rfl, fFst_5 j hj]
      unfold upd
      rw [hq]
      split
      · omega
      · exact l0 j hj
    · exact ⟨_, _, rfl, p5, p6⟩
theorem ae_BOputS6 {l : Launch} {E : jE} {K : Nat → Nat} {n : Nat} : aMe (fF K n) l E jcl jtb lw_tbl fa_T K n (fJX K n) ag_BOputS6 := by
  intro p σ ρ hH hX hA hM
  have hG := aAG_of hA.1 (fun i e v he hv => (hA.2 i e v he hv).1)
  clear hA
  obtain ⟨v0, v1, v2, rfl, g0, g1, g2⟩ := fA_3 hG
  clear hG
  obtain ⟨a, rfl, ha, hka⟩ := fG_ref (by decide) g0
  obtain ⟨s, rfl, bs, ds⟩ := aG_int g1
  obtain ⟨m, rfl, bm, dm⟩ := aG_int g2
  dsimp only at bs ds bm dm
  obtain ⟨-, -, -, m4⟩ := hM
  have f0 : fB K n p 166 [fR a] σ := by
    obtain ⟨w, e6, e7⟩ := m4 (2657, [0]) (List.mem_of_getElem? (i := 0) rfl)
    obtain rfl : [fR a] = w := Option.some.inj (show some [fR a] = some w from e6)
    exact (fF_b (r := 2657) (by decide) rfl).mp e7
  have f1 : fB K n p 154 [fR a] σ := by
    obtain ⟨w, e6, e7⟩ := m4 (2465, [0]) (List.mem_of_getElem? (i := 1) rfl)
    obtain rfl : [fR a] = w := Option.some.inj (show some [fR a] = some w from e6)
    exact (fF_b (r := 2465) (by decide) rfl).mp e7
  clear m4
  obtain ⟨-, b, g, e, w, l0⟩ := f0
  cases e
  obtain ⟨b, g9, e, w9, u⟩ := f1
  cases e
  obtain rfl := fMe_u w9 w
  have hq : s.toInt.toNat = 49 := by omega
  refine jMet_post (fPutX hH hX ha hka ⟨by omega, by omega⟩ ⟨by omega, by omega⟩ w u (by rw [hq]; exact (l0 49 (by decide)).trans rfl)) (fun r σ' n' hp => ?_)
  obtain ⟨rfl, p1, p2, p3, p4, rfl, p5, p6⟩ := hp
  refine ⟨rfl, p1, p2, p3, p4 _, rfl, [], ?_, ?_, [], List.mem_cons_self, fun f h => (by cases h)⟩
  · refine ⟨rfl, fun i e v he hv => ?_⟩
    match i, he, hv with
    | 0, he, hv => obtain rfl := Option.some.inj he; obtain rfl := Option.some.inj hv; exact ⟨⟨ha, Or.inl hka⟩, trivial⟩
    | 1, he, hv => obtain rfl := Option.some.inj he; obtain rfl := Option.some.inj hv; exact ⟨⟨bs, ds⟩, trivial⟩
    | 2, he, hv => obtain rfl := Option.some.inj he; obtain rfl := Option.some.inj hv; exact ⟨⟨bm, dm⟩, trivial⟩
    | k + 3, he, hv => simp [aPe, ag_BOputS6] at he
  · refine ⟨fun q h => (by cases h), fun q h => (by cases h), fun q h => (by cases h), (aAllc ⟨_, rfl, (fF_b (r := 2673) (by decide) rfl).mpr ?_⟩ (aAllc ⟨_, rfl, (fF_b (r := 2465) (by decide) rfl).mpr ?_⟩ (fun f h => by cases h)))⟩
    · refine ⟨by decide, _, _, rfl, p5, fun j hj => ?_⟩
      rw [show 167 - 160 = 7 from rfl, fFst_6 j hj]
      unfold upd
      rw [hq]
      split
      · omega
      · exact l0 j hj
    · exact ⟨_, _, rfl, p5, p6⟩
theorem ae_BOputS7 {l : Launch} {E : jE} {K : Nat → Nat} {n : Nat} : aMe (fF K n) l E jcl jtb lw_tbl fa_T K n (fJX K n) ag_BOputS7 := by
  intro p σ ρ hH hX hA hM
  have hG := aAG_of hA.1 (fun i e v he hv => (hA.2 i e v he hv).1)
  clear hA
  obtain ⟨v0, v1, v2, rfl, g0, g1, g2⟩ := fA_3 hG
  clear hG
  obtain ⟨a, rfl, ha, hka⟩ := fG_ref (by decide) g0
  obtain ⟨s, rfl, bs, ds⟩ := aG_int g1
  obtain ⟨m, rfl, bm, dm⟩ := aG_int g2
  dsimp only at bs ds bm dm
  obtain ⟨-, -, -, m4⟩ := hM
  have f0 : fB K n p 167 [fR a] σ := by
    obtain ⟨w, e6, e7⟩ := m4 (2673, [0]) (List.mem_of_getElem? (i := 0) rfl)
    obtain rfl : [fR a] = w := Option.some.inj (show some [fR a] = some w from e6)
    exact (fF_b (r := 2673) (by decide) rfl).mp e7
  have f1 : fB K n p 154 [fR a] σ := by
    obtain ⟨w, e6, e7⟩ := m4 (2465, [0]) (List.mem_of_getElem? (i := 1) rfl)
    obtain rfl : [fR a] = w := Option.some.inj (show some [fR a] = some w from e6)
    exact (fF_b (r := 2465) (by decide) rfl).mp e7
  clear m4
  obtain ⟨-, b, g, e, w, l0⟩ := f0
  cases e
  obtain ⟨b, g9, e, w9, u⟩ := f1
  cases e
  obtain rfl := fMe_u w9 w
  have hq : s.toInt.toNat = 57 := by omega
  refine jMet_post (fPutX hH hX ha hka ⟨by omega, by omega⟩ ⟨by omega, by omega⟩ w u (by rw [hq]; exact (l0 57 (by decide)).trans rfl)) (fun r σ' n' hp => ?_)
  obtain ⟨rfl, p1, p2, p3, p4, rfl, p5, p6⟩ := hp
  refine ⟨rfl, p1, p2, p3, p4 _, rfl, [], ?_, ?_, [], List.mem_cons_self, fun f h => (by cases h)⟩
  · refine ⟨rfl, fun i e v he hv => ?_⟩
    match i, he, hv with
    | 0, he, hv => obtain rfl := Option.some.inj he; obtain rfl := Option.some.inj hv; exact ⟨⟨ha, Or.inl hka⟩, trivial⟩
    | 1, he, hv => obtain rfl := Option.some.inj he; obtain rfl := Option.some.inj hv; exact ⟨⟨bs, ds⟩, trivial⟩
    | 2, he, hv => obtain rfl := Option.some.inj he; obtain rfl := Option.some.inj hv; exact ⟨⟨bm, dm⟩, trivial⟩
    | k + 3, he, hv => simp [aPe, ag_BOputS7] at he
  · refine ⟨fun q h => (by cases h), fun q h => (by cases h), fun q h => (by cases h), (aAllc ⟨_, rfl, (fF_b (r := 2689) (by decide) rfl).mpr ?_⟩ (aAllc ⟨_, rfl, (fF_b (r := 2465) (by decide) rfl).mpr ?_⟩ (fun f h => by cases h)))⟩
    · refine ⟨by decide, _, _, rfl, p5, fun j hj => ?_⟩
      rw [show 168 - 160 = 8 from rfl, fFst_7 j hj]
      unfold upd
      rw [hq]
      split
      · omega
      · exact l0 j hj
    · exact ⟨_, _, rfl, p5, p6⟩
theorem ae_BOputS8 {l : Launch} {E : jE} {K : Nat → Nat} {n : Nat} : aMe (fF K n) l E jcl jtb lw_tbl fa_T K n (fJX K n) ag_BOputS8 := by
  intro p σ ρ hH hX hA hM
  have hG := aAG_of hA.1 (fun i e v he hv => (hA.2 i e v he hv).1)
  clear hA
  obtain ⟨v0, v1, v2, rfl, g0, g1, g2⟩ := fA_3 hG
  clear hG
  obtain ⟨a, rfl, ha, hka⟩ := fG_ref (by decide) g0
  obtain ⟨s, rfl, bs, ds⟩ := aG_int g1
  obtain ⟨m, rfl, bm, dm⟩ := aG_int g2
  dsimp only at bs ds bm dm
  obtain ⟨-, -, -, m4⟩ := hM
  have f0 : fB K n p 168 [fR a] σ := by
    obtain ⟨w, e6, e7⟩ := m4 (2689, [0]) (List.mem_of_getElem? (i := 0) rfl)
    obtain rfl : [fR a] = w := Option.some.inj (show some [fR a] = some w from e6)
    exact (fF_b (r := 2689) (by decide) rfl).mp e7
  have f1 : fB K n p 154 [fR a] σ := by
    obtain ⟨w, e6, e7⟩ := m4 (2465, [0]) (List.mem_of_getElem? (i := 1) rfl)
    obtain rfl : [fR a] = w := Option.some.inj (show some [fR a] = some w from e6)
    exact (fF_b (r := 2465) (by decide) rfl).mp e7
  clear m4
  obtain ⟨-, b, g, e, w, l0⟩ := f0
  cases e
  obtain ⟨b, g9, e, w9, u⟩ := f1
  cases e
  obtain rfl := fMe_u w9 w
  have hq : s.toInt.toNat = 2 := by omega
  refine jMet_post (fPutX hH hX ha hka ⟨by omega, by omega⟩ ⟨by omega, by omega⟩ w u (by rw [hq]; exact (l0 2 (by decide)).trans rfl)) (fun r σ' n' hp => ?_)
  obtain ⟨rfl, p1, p2, p3, p4, rfl, p5, p6⟩ := hp
  refine ⟨rfl, p1, p2, p3, p4 _, rfl, [], ?_, ?_, [], List.mem_cons_self, fun f h => (by cases h)⟩
  · refine ⟨rfl, fun i e v he hv => ?_⟩
    match i, he, hv with
    | 0, he, hv => obtain rfl := Option.some.inj he; obtain rfl := Option.some.inj hv; exact ⟨⟨ha, Or.inl hka⟩, trivial⟩
    | 1, he, hv => obtain rfl := Option.some.inj he; obtain rfl := Option.some.inj hv; exact ⟨⟨bs, ds⟩, trivial⟩
    | 2, he, hv => obtain rfl := Option.some.inj he; obtain rfl := Option.some.inj hv; exact ⟨⟨bm, dm⟩, trivial⟩
    | k + 3, he, hv => simp [aPe, ag_BOputS8] at he
  · refine ⟨fun q h => (by cases h), fun q h => (by cases h), fun q h => (by cases h), (aAllc ⟨_, rfl, (fF_b (r := 2705) (by decide) rfl).mpr ?_⟩ (aAllc ⟨_, rfl, (fF_b (r := 2465) (by decide) rfl).mpr ?_⟩ (fun f h => by cases h)))⟩
    · refine ⟨by decide, _, _, rfl, p5, fun j hj => ?_⟩
      rw [show 169 - 160 = 9 from rfl, fFst_8 j hj]
      unfold upd
      rw [hq]
      split
      · omega
      · exact l0 j hj
    · exact ⟨_, _, rfl, p5, p6⟩
theorem ae_BOputS9 {l : Launch} {E : jE} {K : Nat → Nat} {n : Nat} : aMe (fF K n) l E jcl jtb lw_tbl fa_T K n (fJX K n) ag_BOputS9 := by
  intro p σ ρ hH hX hA hM
  have hG := aAG_of hA.1 (fun i e v he hv => (hA.2 i e v he hv).1)
  clear hA
  obtain ⟨v0, v1, v2, rfl, g0, g1, g2⟩ := fA_3 hG
  clear hG
  obtain ⟨a, rfl, ha, hka⟩ := fG_ref (by decide) g0
  obtain ⟨s, rfl, bs, ds⟩ := aG_int g1
  obtain ⟨m, rfl, bm, dm⟩ := aG_int g2
  dsimp only at bs ds bm dm
  obtain ⟨-, -, -, m4⟩ := hM
  have f0 : fB K n p 169 [fR a] σ := by
    obtain ⟨w, e6, e7⟩ := m4 (2705, [0]) (List.mem_of_getElem? (i := 0) rfl)
    obtain rfl : [fR a] = w := Option.some.inj (show some [fR a] = some w from e6)
    exact (fF_b (r := 2705) (by decide) rfl).mp e7
  have f1 : fB K n p 154 [fR a] σ := by
    obtain ⟨w, e6, e7⟩ := m4 (2465, [0]) (List.mem_of_getElem? (i := 1) rfl)
    obtain rfl : [fR a] = w := Option.some.inj (show some [fR a] = some w from e6)
    exact (fF_b (r := 2465) (by decide) rfl).mp e7
  clear m4
  obtain ⟨-, b, g, e, w, l0⟩ := f0
  cases e
  obtain ⟨b, g9, e, w9, u⟩ := f1
  cases e
  obtain rfl := fMe_u w9 w
  have hq : s.toInt.toNat = 10 := by omega
  refine jMet_post (fPutX hH hX ha hka ⟨by omega, by omega⟩ ⟨by omega, by omega⟩ w u (by rw [hq]; exact (l0 10 (by decide)).trans rfl)) (fun r σ' n' hp => ?_)
  obtain ⟨rfl, p1, p2, p3, p4, rfl, p5, p6⟩ := hp
  refine ⟨rfl, p1, p2, p3, p4 _, rfl, [], ?_, ?_, [], List.mem_cons_self, fun f h => (by cases h)⟩
  · refine ⟨rfl, fun i e v he hv => ?_⟩
    match i, he, hv with
    | 0, he, hv => obtain rfl := Option.some.inj he; obtain rfl := Option.some.inj hv; exact ⟨⟨ha, Or.inl hka⟩, trivial⟩
    | 1, he, hv => obtain rfl := Option.some.inj he; obtain rfl := Option.some.inj hv; exact ⟨⟨bs, ds⟩, trivial⟩
    | 2, he, hv => obtain rfl := Option.some.inj he; obtain rfl := Option.some.inj hv; exact ⟨⟨bm, dm⟩, trivial⟩
    | k + 3, he, hv => simp [aPe, ag_BOputS9] at he
  · refine ⟨fun q h => (by cases h), fun q h => (by cases h), fun q h => (by cases h), (aAllc ⟨_, rfl, (fF_b (r := 2721) (by decide) rfl).mpr ?_⟩ (aAllc ⟨_, rfl, (fF_b (r := 2465) (by decide) rfl).mpr ?_⟩ (fun f h => by cases h)))⟩
    · refine ⟨by decide, _, _, rfl, p5, fun j hj => ?_⟩
      rw [show 170 - 160 = 10 from rfl, fFst_9 j hj]
      unfold upd
      rw [hq]
      split
      · omega
      · exact l0 j hj
    · exact ⟨_, _, rfl, p5, p6⟩
theorem ae_BOputS10 {l : Launch} {E : jE} {K : Nat → Nat} {n : Nat} : aMe (fF K n) l E jcl jtb lw_tbl fa_T K n (fJX K n) ag_BOputS10 := by
  intro p σ ρ hH hX hA hM
  have hG := aAG_of hA.1 (fun i e v he hv => (hA.2 i e v he hv).1)
  clear hA
  obtain ⟨v0, v1, v2, rfl, g0, g1, g2⟩ := fA_3 hG
  clear hG
  obtain ⟨a, rfl, ha, hka⟩ := fG_ref (by decide) g0
  obtain ⟨s, rfl, bs, ds⟩ := aG_int g1
  obtain ⟨m, rfl, bm, dm⟩ := aG_int g2
  dsimp only at bs ds bm dm
  obtain ⟨-, -, -, m4⟩ := hM
  have f0 : fB K n p 170 [fR a] σ := by
    obtain ⟨w, e6, e7⟩ := m4 (2721, [0]) (List.mem_of_getElem? (i := 0) rfl)
    obtain rfl : [fR a] = w := Option.some.inj (show some [fR a] = some w from e6)
    exact (fF_b (r := 2721) (by decide) rfl).mp e7
  have f1 : fB K n p 154 [fR a] σ := by
    obtain ⟨w, e6, e7⟩ := m4 (2465, [0]) (List.mem_of_getElem? (i := 1) rfl)
    obtain rfl : [fR a] = w := Option.some.inj (show some [fR a] = some w from e6)
    exact (fF_b (r := 2465) (by decide) rfl).mp e7
  clear m4
  obtain ⟨-, b, g, e, w, l0⟩ := f0
  cases e
  obtain ⟨b, g9, e, w9, u⟩ := f1
  cases e
  obtain rfl := fMe_u w9 w
  have hq : s.toInt.toNat = 50 := by omega
  refine jMet_post (fPutX hH hX ha hka ⟨by omega, by omega⟩ ⟨by omega, by omega⟩ w u (by rw [hq]; exact (l0 50 (by decide)).trans rfl)) (fun r σ' n' hp => ?_)
  obtain ⟨rfl, p1, p2, p3, p4, rfl, p5, p6⟩ := hp
  refine ⟨rfl, p1, p2, p3, p4 _, rfl, [], ?_, ?_, [], List.mem_cons_self, fun f h => (by cases h)⟩
  · refine ⟨rfl, fun i e v he hv => ?_⟩
    match i, he, hv with
    | 0, he, hv => obtain rfl := Option.some.inj he; obtain rfl := Option.some.inj hv; exact ⟨⟨ha, Or.inl hka⟩, trivial⟩
    | 1, he, hv => obtain rfl := Option.some.inj he; obtain rfl := Option.some.inj hv; exact ⟨⟨bs, ds⟩, trivial⟩
    | 2, he, hv => obtain rfl := Option.some.inj he; obtain rfl := Option.some.inj hv; exact ⟨⟨bm, dm⟩, trivial⟩
    | k + 3, he, hv => simp [aPe, ag_BOputS10] at he
  · refine ⟨fun q h => (by cases h), fun q h => (by cases h), fun q h => (by cases h), (aAllc ⟨_, rfl, (fF_b (r := 2737) (by decide) rfl).mpr ?_⟩ (aAllc ⟨_, rfl, (fF_b (r := 2465) (by decide) rfl).mpr ?_⟩ (fun f h => by cases h)))⟩
    · refine ⟨by decide, _, _, rfl, p5, fun j hj => ?_⟩
      rw [show 171 - 160 = 11 from rfl, fFst_10 j hj]
      unfold upd
      rw [hq]
      split
      · omega
      · exact l0 j hj
    · exact ⟨_, _, rfl, p5, p6⟩
theorem ae_BOputS11 {l : Launch} {E : jE} {K : Nat → Nat} {n : Nat} : aMe (fF K n) l E jcl jtb lw_tbl fa_T K n (fJX K n) ag_BOputS11 := by
  intro p σ ρ hH hX hA hM
  have hG := aAG_of hA.1 (fun i e v he hv => (hA.2 i e v he hv).1)
  clear hA
  obtain ⟨v0, v1, v2, rfl, g0, g1, g2⟩ := fA_3 hG
  clear hG
  obtain ⟨a, rfl, ha, hka⟩ := fG_ref (by decide) g0
  obtain ⟨s, rfl, bs, ds⟩ := aG_int g1
  obtain ⟨m, rfl, bm, dm⟩ := aG_int g2
  dsimp only at bs ds bm dm
  obtain ⟨-, -, -, m4⟩ := hM
  have f0 : fB K n p 171 [fR a] σ := by
    obtain ⟨w, e6, e7⟩ := m4 (2737, [0]) (List.mem_of_getElem? (i := 0) rfl)
    obtain rfl : [fR a] = w := Option.some.inj (show some [fR a] = some w from e6)
    exact (fF_b (r := 2737) (by decide) rfl).mp e7
  have f1 : fB K n p 154 [fR a] σ := by
    obtain ⟨w, e6, e7⟩ := m4 (2465, [0]) (List.mem_of_getElem? (i := 1) rfl)
    obtain rfl : [fR a] = w := Option.some.inj (show some [fR a] = some w from e6)
    exact (fF_b (r := 2465) (by decide) rfl).mp e7
  clear m4
  obtain ⟨-, b, g, e, w, l0⟩ := f0
  cases e
  obtain ⟨b, g9, e, w9, u⟩ := f1
  cases e
  obtain rfl := fMe_u w9 w
  have hq : s.toInt.toNat = 58 := by omega
  refine jMet_post (fPutX hH hX ha hka ⟨by omega, by omega⟩ ⟨by omega, by omega⟩ w u (by rw [hq]; exact (l0 58 (by decide)).trans rfl)) (fun r σ' n' hp => ?_)
  obtain ⟨rfl, p1, p2, p3, p4, rfl, p5, p6⟩ := hp
  refine ⟨rfl, p1, p2, p3, p4 _, rfl, [], ?_, ?_, [], List.mem_cons_self, fun f h => (by cases h)⟩
  · refine ⟨rfl, fun i e v he hv => ?_⟩
    match i, he, hv with
    | 0, he, hv => obtain rfl := Option.some.inj he; obtain rfl := Option.some.inj hv; exact ⟨⟨ha, Or.inl hka⟩, trivial⟩
    | 1, he, hv => obtain rfl := Option.some.inj he; obtain rfl := Option.some.inj hv; exact ⟨⟨bs, ds⟩, trivial⟩
    | 2, he, hv => obtain rfl := Option.some.inj he; obtain rfl := Option.some.inj hv; exact ⟨⟨bm, dm⟩, trivial⟩
    | k + 3, he, hv => simp [aPe, ag_BOputS11] at he
  · refine ⟨fun q h => (by cases h), fun q h => (by cases h), fun q h => (by cases h), (aAllc ⟨_, rfl, (fF_b (r := 2753) (by decide) rfl).mpr ?_⟩ (aAllc ⟨_, rfl, (fF_b (r := 2465) (by decide) rfl).mpr ?_⟩ (fun f h => by cases h)))⟩
    · refine ⟨by decide, _, _, rfl, p5, fun j hj => ?_⟩
      rw [show 172 - 160 = 12 from rfl, fFst_11 j hj]
      unfold upd
      rw [hq]
      split
      · omega
      · exact l0 j hj
    · exact ⟨_, _, rfl, p5, p6⟩
theorem ae_BOputS12 {l : Launch} {E : jE} {K : Nat → Nat} {n : Nat} : aMe (fF K n) l E jcl jtb lw_tbl fa_T K n (fJX K n) ag_BOputS12 := by
  intro p σ ρ hH hX hA hM
  have hG := aAG_of hA.1 (fun i e v he hv => (hA.2 i e v he hv).1)
  clear hA
  obtain ⟨v0, v1, v2, rfl, g0, g1, g2⟩ := fA_3 hG
  clear hG
  obtain ⟨a, rfl, ha, hka⟩ := fG_ref (by decide) g0
  obtain ⟨s, rfl, bs, ds⟩ := aG_int g1
  obtain ⟨m, rfl, bm, dm⟩ := aG_int g2
  dsimp only at bs ds bm dm
  obtain ⟨-, -, -, m4⟩ := hM
  have f0 : fB K n p 172 [fR a] σ := by
    obtain ⟨w, e6, e7⟩ := m4 (2753, [0]) (List.mem_of_getElem? (i := 0) rfl)
    obtain rfl : [fR a] = w := Option.some.inj (show some [fR a] = some w from e6)
    exact (fF_b (r := 2753) (by decide) rfl).mp e7
  have f1 : fB K n p 154 [fR a] σ := by
    obtain ⟨w, e6, e7⟩ := m4 (2465, [0]) (List.mem_of_getElem? (i := 1) rfl)
    obtain rfl : [fR a] = w := Option.some.inj (show some [fR a] = some w from e6)
    exact (fF_b (r := 2465) (by decide) rfl).mp e7
  clear m4
  obtain ⟨-, b, g, e, w, l0⟩ := f0
  cases e
  obtain ⟨b, g9, e, w9, u⟩ := f1
  cases e
  obtain rfl := fMe_u w9 w
  have hq : s.toInt.toNat = 3 := by omega
  refine jMet_post (fPutX hH hX ha hka ⟨by omega, by omega⟩ ⟨by omega, by omega⟩ w u (by rw [hq]; exact (l0 3 (by decide)).trans rfl)) (fun r σ' n' hp => ?_)
  obtain ⟨rfl, p1, p2, p3, p4, rfl, p5, p6⟩ := hp
  refine ⟨rfl, p1, p2, p3, p4 _, rfl, [], ?_, ?_, [], List.mem_cons_self, fun f h => (by cases h)⟩
  · refine ⟨rfl, fun i e v he hv => ?_⟩
    match i, he, hv with
    | 0, he, hv => obtain rfl := Option.some.inj he; obtain rfl := Option.some.inj hv; exact ⟨⟨ha, Or.inl hka⟩, trivial⟩
    | 1, he, hv => obtain rfl := Option.some.inj he; obtain rfl := Option.some.inj hv; exact ⟨⟨bs, ds⟩, trivial⟩
    | 2, he, hv => obtain rfl := Option.some.inj he; obtain rfl := Option.some.inj hv; exact ⟨⟨bm, dm⟩, trivial⟩
    | k + 3, he, hv => simp [aPe, ag_BOputS12] at he
  · refine ⟨fun q h => (by cases h), fun q h => (by cases h), fun q h => (by cases h), (aAllc ⟨_, rfl, (fF_b (r := 2769) (by decide) rfl).mpr ?_⟩ (aAllc ⟨_, rfl, (fF_b (r := 2465) (by decide) rfl).mpr ?_⟩ (fun f h => by cases h)))⟩
    · refine ⟨by decide, _, _, rfl, p5, fun j hj => ?_⟩
      rw [show 173 - 160 = 13 from rfl, fFst_12 j hj]
      unfold upd
      rw [hq]
      split
      · omega
      · exact l0 j hj
    · exact ⟨_, _, rfl, p5, p6⟩
theorem ae_BOputS13 {l : Launch} {E : jE} {K : Nat → Nat} {n : Nat} : aMe (fF K n) l E jcl jtb lw_tbl fa_T K n (fJX K n) ag_BOputS13 := by
  intro p σ ρ hH hX hA hM
  have hG := aAG_of hA.1 (fun i e v he hv => (hA.2 i e v he hv).1)
  clear hA
  obtain ⟨v0, v1, v2, rfl, g0, g1, g2⟩ := fA_3 hG
  clear hG
  obtain ⟨a, rfl, ha, hka⟩ := fG_ref (by decide) g0
  obtain ⟨s, rfl, bs, ds⟩ := aG_int g1
  obtain ⟨m, rfl, bm, dm⟩ := aG_int g2
  dsimp only at bs ds bm dm
  obtain ⟨-, -, -, m4⟩ := hM
  have f0 : fB K n p 173 [fR a] σ := by
    obtain ⟨w, e6, e7⟩ := m4 (2769, [0]) (List.mem_of_getElem? (i := 0) rfl)
    obtain rfl : [fR a] = w := Option.some.inj (show some [fR a] = some w from e6)
    exact (fF_b (r := 2769) (by decide) rfl).mp e7
  have f1 : fB K n p 154 [fR a] σ := by
    obtain ⟨w, e6, e7⟩ := m4 (2465, [0]) (List.mem_of_getElem? (i := 1) rfl)
    obtain rfl : [fR a] = w := Option.some.inj (show some [fR a] = some w from e6)
    exact (fF_b (r := 2465) (by decide) rfl).mp e7
  clear m4
  obtain ⟨-, b, g, e, w, l0⟩ := f0
  cases e
  obtain ⟨b, g9, e, w9, u⟩ := f1
  cases e
  obtain rfl := fMe_u w9 w
  have hq : s.toInt.toNat = 11 := by omega
  refine jMet_post (fPutX hH hX ha hka ⟨by omega, by omega⟩ ⟨by omega, by omega⟩ w u (by rw [hq]; exact (l0 11 (by decide)).trans rfl)) (fun r σ' n' hp => ?_)
  obtain ⟨rfl, p1, p2, p3, p4, rfl, p5, p6⟩ := hp
  refine ⟨rfl, p1, p2, p3, p4 _, rfl, [], ?_, ?_, [], List.mem_cons_self, fun f h => (by cases h)⟩
  · refine ⟨rfl, fun i e v he hv => ?_⟩
    match i, he, hv with
    | 0, he, hv => obtain rfl := Option.some.inj he; obtain rfl := Option.some.inj hv; exact ⟨⟨ha, Or.inl hka⟩, trivial⟩
    | 1, he, hv => obtain rfl := Option.some.inj he; obtain rfl := Option.some.inj hv; exact ⟨⟨bs, ds⟩, trivial⟩
    | 2, he, hv => obtain rfl := Option.some.inj he; obtain rfl := Option.some.inj hv; exact ⟨⟨bm, dm⟩, trivial⟩
    | k + 3, he, hv => simp [aPe, ag_BOputS13] at he
  · refine ⟨fun q h => (by cases h), fun q h => (by cases h), fun q h => (by cases h), (aAllc ⟨_, rfl, (fF_b (r := 2785) (by decide) rfl).mpr ?_⟩ (aAllc ⟨_, rfl, (fF_b (r := 2465) (by decide) rfl).mpr ?_⟩ (fun f h => by cases h)))⟩
    · refine ⟨by decide, _, _, rfl, p5, fun j hj => ?_⟩
      rw [show 174 - 160 = 14 from rfl, fFst_13 j hj]
      unfold upd
      rw [hq]
      split
      · omega
      · exact l0 j hj
    · exact ⟨_, _, rfl, p5, p6⟩
theorem ae_BOputS14 {l : Launch} {E : jE} {K : Nat → Nat} {n : Nat} : aMe (fF K n) l E jcl jtb lw_tbl fa_T K n (fJX K n) ag_BOputS14 := by
  intro p σ ρ hH hX hA hM
  have hG := aAG_of hA.1 (fun i e v he hv => (hA.2 i e v he hv).1)
  clear hA
  obtain ⟨v0, v1, v2, rfl, g0, g1, g2⟩ := fA_3 hG
  clear hG
  obtain ⟨a, rfl, ha, hka⟩ := fG_ref (by decide) g0
  obtain ⟨s, rfl, bs, ds⟩ := aG_int g1
  obtain ⟨m, rfl, bm, dm⟩ := aG_int g2
  dsimp only at bs ds bm dm
  obtain ⟨-, -, -, m4⟩ := hM
  have f0 : fB K n p 174 [fR a] σ := by
    obtain ⟨w, e6, e7⟩ := m4 (2785, [0]) (List.mem_of_getElem? (i := 0) rfl)
    obtain rfl : [fR a] = w := Option.some.inj (show some [fR a] = some w from e6)
    exact (fF_b (r := 2785) (by decide) rfl).mp e7
  have f1 : fB K n p 154 [fR a] σ := by
    obtain ⟨w, e6, e7⟩ := m4 (2465, [0]) (List.mem_of_getElem? (i := 1) rfl)
    obtain rfl : [fR a] = w := Option.some.inj (show some [fR a] = some w from e6)
    exact (fF_b (r := 2465) (by decide) rfl).mp e7
  clear m4
  obtain ⟨-, b, g, e, w, l0⟩ := f0
  cases e
  obtain ⟨b, g9, e, w9, u⟩ := f1
  cases e
  obtain rfl := fMe_u w9 w
  have hq : s.toInt.toNat = 51 := by omega
  refine jMet_post (fPutX hH hX ha hka ⟨by omega, by omega⟩ ⟨by omega, by omega⟩ w u (by rw [hq]; exact (l0 51 (by decide)).trans rfl)) (fun r σ' n' hp => ?_)
  obtain ⟨rfl, p1, p2, p3, p4, rfl, p5, p6⟩ := hp
  refine ⟨rfl, p1, p2, p3, p4 _, rfl, [], ?_, ?_, [], List.mem_cons_self, fun f h => (by cases h)⟩
  · refine ⟨rfl, fun i e v he hv => ?_⟩
    match i, he, hv with
    | 0, he, hv => obtain rfl := Option.some.inj he; obtain rfl := Option.some.inj hv; exact ⟨⟨ha, Or.inl hka⟩, trivial⟩
    | 1, he, hv => obtain rfl := Option.some.inj he; obtain rfl := Option.some.inj hv; exact ⟨⟨bs, ds⟩, trivial⟩
    | 2, he, hv => obtain rfl := Option.some.inj he; obtain rfl := Option.some.inj hv; exact ⟨⟨bm, dm⟩, trivial⟩
    | k + 3, he, hv => simp [aPe, ag_BOputS14] at he
  · refine ⟨fun q h => (by cases h), fun q h => (by cases h), fun q h => (by cases h), (aAllc ⟨_, rfl, (fF_b (r := 2801) (by decide) rfl).mpr ?_⟩ (aAllc ⟨_, rfl, (fF_b (r := 2465) (by decide) rfl).mpr ?_⟩ (fun f h => by cases h)))⟩
    · refine ⟨by decide, _, _, rfl, p5, fun j hj => ?_⟩
      rw [show 175 - 160 = 15 from rfl, fFst_14 j hj]
      unfold upd
      rw [hq]
      split
      · omega
      · exact l0 j hj
    · exact ⟨_, _, rfl, p5, p6⟩
theorem ae_BOputS15 {l : Launch} {E : jE} {K : Nat → Nat} {n : Nat} : aMe (fF K n) l E jcl jtb lw_tbl fa_T K n (fJX K n) ag_BOputS15 := by
  intro p σ ρ hH hX hA hM
  have hG := aAG_of hA.1 (fun i e v he hv => (hA.2 i e v he hv).1)
  clear hA
  obtain ⟨v0, v1, v2, rfl, g0, g1, g2⟩ := fA_3 hG
  clear hG
  obtain ⟨a, rfl, ha, hka⟩ := fG_ref (by decide) g0
  obtain ⟨s, rfl, bs, ds⟩ := aG_int g1
  obtain ⟨m, rfl, bm, dm⟩ := aG_int g2
  dsimp only at bs ds bm dm
  obtain ⟨-, -, -, m4⟩ := hM
  have f0 : fB K n p 175 [fR a] σ := by
    obtain ⟨w, e6, e7⟩ := m4 (2801, [0]) (List.mem_of_getElem? (i := 0) rfl)
    obtain rfl : [fR a] = w := Option.some.inj (show some [fR a] = some w from e6)
    exact (fF_b (r := 2801) (by decide) rfl).mp e7
  have f1 : fB K n p 154 [fR a] σ := by
    obtain ⟨w, e6, e7⟩ := m4 (2465, [0]) (List.mem_of_getElem? (i := 1) rfl)
    obtain rfl : [fR a] = w := Option.some.inj (show some [fR a] = some w from e6)
    exact (fF_b (r := 2465) (by decide) rfl).mp e7
  clear m4
  obtain ⟨-, b, g, e, w, l0⟩ := f0
  cases e
  obtain ⟨b, g9, e, w9, u⟩ := f1
  cases e
  obtain rfl := fMe_u w9 w
  have hq : s.toInt.toNat = 59 := by omega
  refine jMet_post (fPutX hH hX ha hka ⟨by omega, by omega⟩ ⟨by omega, by omega⟩ w u (by rw [hq]; exact (l0 59 (by decide)).trans rfl)) (fun r σ' n' hp => ?_)
  obtain ⟨rfl, p1, p2, p3, p4, rfl, p5, p6⟩ := hp
  refine ⟨rfl, p1, p2, p3, p4 _, rfl, [], ?_, ?_, [], List.mem_cons_self, fun f h => (by cases h)⟩
  · refine ⟨rfl, fun i e v he hv => ?_⟩
    match i, he, hv with
    | 0, he, hv => obtain rfl := Option.some.inj he; obtain rfl := Option.some.inj hv; exact ⟨⟨ha, Or.inl hka⟩, trivial⟩
    | 1, he, hv => obtain rfl := Option.some.inj he; obtain rfl := Option.some.inj hv; exact ⟨⟨bs, ds⟩, trivial⟩
    | 2, he, hv => obtain rfl := Option.some.inj he; obtain rfl := Option.some.inj hv; exact ⟨⟨bm, dm⟩, trivial⟩
    | k + 3, he, hv => simp [aPe, ag_BOputS15] at he
  · refine ⟨fun q h => (by cases h), fun q h => (by cases h), fun q h => (by cases h), (aAllc ⟨_, rfl, (fF_b (r := 2817) (by decide) rfl).mpr ?_⟩ (aAllc ⟨_, rfl, (fF_b (r := 2465) (by decide) rfl).mpr ?_⟩ (fun f h => by cases h)))⟩
    · refine ⟨by decide, _, _, rfl, p5, fun j hj => ?_⟩
      rw [show 176 - 160 = 16 from rfl, fFst_15 j hj]
      unfold upd
      rw [hq]
      split
      · omega
      · exact l0 j hj
    · exact ⟨_, _, rfl, p5, p6⟩
theorem ae_BOputS16 {l : Launch} {E : jE} {K : Nat → Nat} {n : Nat} : aMe (fF K n) l E jcl jtb lw_tbl fa_T K n (fJX K n) ag_BOputS16 := by
  intro p σ ρ hH hX hA hM
  have hG := aAG_of hA.1 (fun i e v he hv => (hA.2 i e v he hv).1)
  clear hA
  obtain ⟨v0, v1, v2, rfl, g0, g1, g2⟩ := fA_3 hG
  clear hG
  obtain ⟨a, rfl, ha, hka⟩ := fG_ref (by decide) g0
  obtain ⟨s, rfl, bs, ds⟩ := aG_int g1
  obtain ⟨m, rfl, bm, dm⟩ := aG_int g2
  dsimp only at bs ds bm dm
  obtain ⟨-, -, -, m4⟩ := hM
  have f0 : fB K n p 176 [fR a] σ := by
    obtain ⟨w, e6, e7⟩ := m4 (2817, [0]) (List.mem_of_getElem? (i := 0) rfl)
    obtain rfl : [fR a] = w := Option.some.inj (show some [fR a] = some w from e6)
    exact (fF_b (r := 2817) (by decide) rfl).mp e7
  have f1 : fB K n p 154 [fR a] σ := by
    obtain ⟨w, e6, e7⟩ := m4 (2465, [0]) (List.mem_of_getElem? (i := 1) rfl)
    obtain rfl : [fR a] = w := Option.some.inj (show some [fR a] = some w from e6)
    exact (fF_b (r := 2465) (by decide) rfl).mp e7
  clear m4
  obtain ⟨-, b, g, e, w, l0⟩ := f0
  cases e
  obtain ⟨b, g9, e, w9, u⟩ := f1
  cases e
  obtain rfl := fMe_u w9 w
  have hq : s.toInt.toNat = 4 := by omega
  refine jMet_post (fPutX hH hX ha hka ⟨by omega, by omega⟩ ⟨by omega, by omega⟩ w u (by rw [hq]; exact (l0 4 (by decide)).trans rfl)) (fun r σ' n' hp => ?_)
  obtain ⟨rfl, p1, p2, p3, p4, rfl, p5, p6⟩ := hp
  refine ⟨rfl, p1, p2, p3, p4 _, rfl, [], ?_, ?_, [], List.mem_cons_self, fun f h => (by cases h)⟩
  · refine ⟨rfl, fun i e v he hv => ?_⟩
    match i, he, hv with
    | 0, he, hv => obtain rfl := Option.some.inj he; obtain rfl := Option.some.inj hv; exact ⟨⟨ha, Or.inl hka⟩, trivial⟩
    | 1, he, hv => obtain rfl := Option.some.inj he; obtain rfl := Option.some.inj hv; exact ⟨⟨bs, ds⟩, trivial⟩
    | 2, he, hv => obtain rfl := Option.some.inj he; obtain rfl := Option.some.inj hv; exact ⟨⟨bm, dm⟩, trivial⟩
    | k + 3, he, hv => simp [aPe, ag_BOputS16] at he
  · refine ⟨fun q h => (by cases h), fun q h => (by cases h), fun q h => (by cases h), (aAllc ⟨_, rfl, (fF_b (r := 2833) (by decide) rfl).mpr ?_⟩ (aAllc ⟨_, rfl, (fF_b (r := 2465) (by decide) rfl).mpr ?_⟩ (fun f h => by cases h)))⟩
    · refine ⟨by decide, _, _, rfl, p5, fun j hj => ?_⟩
      rw [show 177 - 160 = 17 from rfl, fFst_16 j hj]
      unfold upd
      rw [hq]
      split
      · omega
      · exact l0 j hj
    · exact ⟨_, _, rfl, p5, p6⟩
theorem ae_BOputS17 {l : Launch} {E : jE} {K : Nat → Nat} {n : Nat} : aMe (fF K n) l E jcl jtb lw_tbl fa_T K n (fJX K n) ag_BOputS17 := by
  intro p σ ρ hH hX hA hM
  have hG := aAG_of hA.1 (fun i e v he hv => (hA.2 i e v he hv).1)
  clear hA
  obtain ⟨v0, v1, v2, rfl, g0, g1, g2⟩ := fA_3 hG
  clear hG
  obtain ⟨a, rfl, ha, hka⟩ := fG_ref (by decide) g0
  obtain ⟨s, rfl, bs, ds⟩ := aG_int g1
  obtain ⟨m, rfl, bm, dm⟩ := aG_int g2
  dsimp only at bs ds bm dm
  obtain ⟨-, -, -, m4⟩ := hM
  have f0 : fB K n p 177 [fR a] σ := by
    obtain ⟨w, e6, e7⟩ := m4 (2833, [0]) (List.mem_of_getElem? (i := 0) rfl)
    obtain rfl : [fR a] = w := Option.some.inj (show some [fR a] = some w from e6)
    exact (fF_b (r := 2833) (by decide) rfl).mp e7
  have f1 : fB K n p 154 [fR a] σ := by
    obtain ⟨w, e6, e7⟩ := m4 (2465, [0]) (List.mem_of_getElem? (i := 1) rfl)
    obtain rfl : [fR a] = w := Option.some.inj (show some [fR a] = some w from e6)
    exact (fF_b (r := 2465) (by decide) rfl).mp e7
  clear m4
  obtain ⟨-, b, g, e, w, l0⟩ := f0
  cases e
  obtain ⟨b, g9, e, w9, u⟩ := f1
  cases e
  obtain rfl := fMe_u w9 w
  have hq : s.toInt.toNat = 12 := by omega
  refine jMet_post (fPutX hH hX ha hka ⟨by omega, by omega⟩ ⟨by omega, by omega⟩ w u (by rw [hq]; exact (l0 12 (by decide)).trans rfl)) (fun r σ' n' hp => ?_)
  obtain ⟨rfl, p1, p2, p3, p4, rfl, p5, p6⟩ := hp
  refine ⟨rfl, p1, p2, p3, p4 _, rfl, [], ?_, ?_, [], List.mem_cons_self, fun f h => (by cases h)⟩
  · refine ⟨rfl, fun i e v he hv => ?_⟩
    match i, he, hv with
    | 0, he, hv => obtain rfl := Option.some.inj he; obtain rfl := Option.some.inj hv; exact ⟨⟨ha, Or.inl hka⟩, trivial⟩
    | 1, he, hv => obtain rfl := Option.some.inj he; obtain rfl := Option.some.inj hv; exact ⟨⟨bs, ds⟩, trivial⟩
    | 2, he, hv => obtain rfl := Option.some.inj he; obtain rfl := Option.some.inj hv; exact ⟨⟨bm, dm⟩, trivial⟩
    | k + 3, he, hv => simp [aPe, ag_BOputS17] at he
  · refine ⟨fun q h => (by cases h), fun q h => (by cases h), fun q h => (by cases h), (aAllc ⟨_, rfl, (fF_b (r := 2849) (by decide) rfl).mpr ?_⟩ (aAllc ⟨_, rfl, (fF_b (r := 2465) (by decide) rfl).mpr ?_⟩ (fun f h => by cases h)))⟩
    · refine ⟨by decide, _, _, rfl, p5, fun j hj => ?_⟩
      rw [show 178 - 160 = 18 from rfl, fFst_17 j hj]
      unfold upd
      rw [hq]
      split
      · omega
      · exact l0 j hj
    · exact ⟨_, _, rfl, p5, p6⟩
theorem ae_BOputS18 {l : Launch} {E : jE} {K : Nat → Nat} {n : Nat} : aMe (fF K n) l E jcl jtb lw_tbl fa_T K n (fJX K n) ag_BOputS18 := by
  intro p σ ρ hH hX hA hM
  have hG := aAG_of hA.1 (fun i e v he hv => (hA.2 i e v he hv).1)
  clear hA
  obtain ⟨v0, v1, v2, rfl, g0, g1, g2⟩ := fA_3 hG
  clear hG
  obtain ⟨a, rfl, ha, hka⟩ := fG_ref (by decide) g0
  obtain ⟨s, rfl, bs, ds⟩ := aG_int g1
  obtain ⟨m, rfl, bm, dm⟩ := aG_int g2
  dsimp only at bs ds bm dm
  obtain ⟨-, -, -, m4⟩ := hM
  have f0 : fB K n p 178 [fR a] σ := by
    obtain ⟨w, e6, e7⟩ := m4 (2849, [0]) (List.mem_of_getElem? (i := 0) rfl)
    obtain rfl : [fR a] = w := Option.some.inj (show some [fR a] = some w from e6)
    exact (fF_b (r := 2849) (by decide) rfl).mp e7
  have f1 : fB K n p 154 [fR a] σ := by
    obtain ⟨w, e6, e7⟩ := m4 (2465, [0]) (List.mem_of_getElem? (i := 1) rfl)
    obtain rfl : [fR a] = w := Option.some.inj (show some [fR a] = some w from e6)
    exact (fF_b (r := 2465) (by decide) rfl).mp e7
  clear m4
  obtain ⟨-, b, g, e, w, l0⟩ := f0
  cases e
  obtain ⟨b, g9, e, w9, u⟩ := f1
  cases e
  obtain rfl := fMe_u w9 w
  have hq : s.toInt.toNat = 52 := by omega
  refine jMet_post (fPutX hH hX ha hka ⟨by omega, by omega⟩ ⟨by omega, by omega⟩ w u (by rw [hq]; exact (l0 52 (by decide)).trans rfl)) (fun r σ' n' hp => ?_)
  obtain ⟨rfl, p1, p2, p3, p4, rfl, p5, p6⟩ := hp
  refine ⟨rfl, p1, p2, p3, p4 _, rfl, [], ?_, ?_, [], List.mem_cons_self, fun f h => (by cases h)⟩
  · refine ⟨rfl, fun i e v he hv => ?_⟩
    match i, he, hv with
    | 0, he, hv => obtain rfl := Option.some.inj he; obtain rfl := Option.some.inj hv; exact ⟨⟨ha, Or.inl hka⟩, trivial⟩
    | 1, he, hv => obtain rfl := Option.some.inj he; obtain rfl := Option.some.inj hv; exact ⟨⟨bs, ds⟩, trivial⟩
    | 2, he, hv => obtain rfl := Option.some.inj he; obtain rfl := Option.some.inj hv; exact ⟨⟨bm, dm⟩, trivial⟩
    | k + 3, he, hv => simp [aPe, ag_BOputS18] at he
  · refine ⟨fun q h => (by cases h), fun q h => (by cases h), fun q h => (by cases h), (aAllc ⟨_, rfl, (fF_b (r := 2865) (by decide) rfl).mpr ?_⟩ (aAllc ⟨_, rfl, (fF_b (r := 2465) (by decide) rfl).mpr ?_⟩ (fun f h => by cases h)))⟩
    · refine ⟨by decide, _, _, rfl, p5, fun j hj => ?_⟩
      rw [show 179 - 160 = 19 from rfl, fFst_18 j hj]
      unfold upd
      rw [hq]
      split
      · omega
      · exact l0 j hj
    · exact ⟨_, _, rfl, p5, p6⟩
theorem ae_BOputS19 {l : Launch} {E : jE} {K : Nat → Nat} {n : Nat} : aMe (fF K n) l E jcl jtb lw_tbl fa_T K n (fJX K n) ag_BOputS19 := by
  intro p σ ρ hH hX hA hM
  have hG := aAG_of hA.1 (fun i e v he hv => (hA.2 i e v he hv).1)
  clear hA
  obtain ⟨v0, v1, v2, rfl, g0, g1, g2⟩ := fA_3 hG
  clear hG
  obtain ⟨a, rfl, ha, hka⟩ := fG_ref (by decide) g0
  obtain ⟨s, rfl, bs, ds⟩ := aG_int g1
  obtain ⟨m, rfl, bm, dm⟩ := aG_int g2
  dsimp only at bs ds bm dm
  obtain ⟨-, -, -, m4⟩ := hM
  have f0 : fB K n p 179 [fR a] σ := by
    obtain ⟨w, e6, e7⟩ := m4 (2865, [0]) (List.mem_of_getElem? (i := 0) rfl)
    obtain rfl : [fR a] = w := Option.some.inj (show some [fR a] = some w from e6)
    exact (fF_b (r := 2865) (by decide) rfl).mp e7
  have f1 : fB K n p 154 [fR a] σ := by
    obtain ⟨w, e6, e7⟩ := m4 (2465, [0]) (List.mem_of_getElem? (i := 1) rfl)
    obtain rfl : [fR a] = w := Option.some.inj (show some [fR a] = some w from e6)
    exact (fF_b (r := 2465) (by decide) rfl).mp e7
  clear m4
  obtain ⟨-, b, g, e, w, l0⟩ := f0
  cases e
  obtain ⟨b, g9, e, w9, u⟩ := f1
  cases e
  obtain rfl := fMe_u w9 w
  have hq : s.toInt.toNat = 60 := by omega
  refine jMet_post (fPutX hH hX ha hka ⟨by omega, by omega⟩ ⟨by omega, by omega⟩ w u (by rw [hq]; exact (l0 60 (by decide)).trans rfl)) (fun r σ' n' hp => ?_)
  obtain ⟨rfl, p1, p2, p3, p4, rfl, p5, p6⟩ := hp
  refine ⟨rfl, p1, p2, p3, p4 _, rfl, [], ?_, ?_, [], List.mem_cons_self, fun f h => (by cases h)⟩
  · refine ⟨rfl, fun i e v he hv => ?_⟩
    match i, he, hv with
    | 0, he, hv => obtain rfl := Option.some.inj he; obtain rfl := Option.some.inj hv; exact ⟨⟨ha, Or.inl hka⟩, trivial⟩
    | 1, he, hv => obtain rfl := Option.some.inj he; obtain rfl := Option.some.inj hv; exact ⟨⟨bs, ds⟩, trivial⟩
    | 2, he, hv => obtain rfl := Option.some.inj he; obtain rfl := Option.some.inj hv; exact ⟨⟨bm, dm⟩, trivial⟩
    | k + 3, he, hv => simp [aPe, ag_BOputS19] at he
  · refine ⟨fun q h => (by cases h), fun q h => (by cases h), fun q h => (by cases h), (aAllc ⟨_, rfl, (fF_b (r := 2881) (by decide) rfl).mpr ?_⟩ (aAllc ⟨_, rfl, (fF_b (r := 2465) (by decide) rfl).mpr ?_⟩ (fun f h => by cases h)))⟩
    · refine ⟨by decide, _, _, rfl, p5, fun j hj => ?_⟩
      rw [show 180 - 160 = 20 from rfl, fFst_19 j hj]
      unfold upd
      rw [hq]
      split
      · omega
      · exact l0 j hj
    · exact ⟨_, _, rfl, p5, p6⟩
theorem ae_BOputS20 {l : Launch} {E : jE} {K : Nat → Nat} {n : Nat} : aMe (fF K n) l E jcl jtb lw_tbl fa_T K n (fJX K n) ag_BOputS20 := by
  intro p σ ρ hH hX hA hM
  have hG := aAG_of hA.1 (fun i e v he hv => (hA.2 i e v he hv).1)
  clear hA
  obtain ⟨v0, v1, v2, rfl, g0, g1, g2⟩ := fA_3 hG
  clear hG
  obtain ⟨a, rfl, ha, hka⟩ := fG_ref (by decide) g0
  obtain ⟨s, rfl, bs, ds⟩ := aG_int g1
  obtain ⟨m, rfl, bm, dm⟩ := aG_int g2
  dsimp only at bs ds bm dm
  obtain ⟨-, -, -, m4⟩ := hM
  have f0 : fB K n p 180 [fR a] σ := by
    obtain ⟨w, e6, e7⟩ := m4 (2881, [0]) (List.mem_of_getElem? (i := 0) rfl)
    obtain rfl : [fR a] = w := Option.some.inj (show some [fR a] = some w from e6)
    exact (fF_b (r := 2881) (by decide) rfl).mp e7
  have f1 : fB K n p 154 [fR a] σ := by
    obtain ⟨w, e6, e7⟩ := m4 (2465, [0]) (List.mem_of_getElem? (i := 1) rfl)
    obtain rfl : [fR a] = w := Option.some.inj (show some [fR a] = some w from e6)
    exact (fF_b (r := 2465) (by decide) rfl).mp e7
  clear m4
  obtain ⟨-, b, g, e, w, l0⟩ := f0
  cases e
  obtain ⟨b, g9, e, w9, u⟩ := f1
  cases e
  obtain rfl := fMe_u w9 w
  have hq : s.toInt.toNat = 5 := by omega
  refine jMet_post (fPutX hH hX ha hka ⟨by omega, by omega⟩ ⟨by omega, by omega⟩ w u (by rw [hq]; exact (l0 5 (by decide)).trans rfl)) (fun r σ' n' hp => ?_)
  obtain ⟨rfl, p1, p2, p3, p4, rfl, p5, p6⟩ := hp
  refine ⟨rfl, p1, p2, p3, p4 _, rfl, [], ?_, ?_, [], List.mem_cons_self, fun f h => (by cases h)⟩
  · refine ⟨rfl, fun i e v he hv => ?_⟩
    match i, he, hv with
    | 0, he, hv => obtain rfl := Option.some.inj he; obtain rfl := Option.some.inj hv; exact ⟨⟨ha, Or.inl hka⟩, trivial⟩
    | 1, he, hv => obtain rfl := Option.some.inj he; obtain rfl := Option.some.inj hv; exact ⟨⟨bs, ds⟩, trivial⟩
    | 2, he, hv => obtain rfl := Option.some.inj he; obtain rfl := Option.some.inj hv; exact ⟨⟨bm, dm⟩, trivial⟩
    | k + 3, he, hv => simp [aPe, ag_BOputS20] at he
  · refine ⟨fun q h => (by cases h), fun q h => (by cases h), fun q h => (by cases h), (aAllc ⟨_, rfl, (fF_b (r := 2897) (by decide) rfl).mpr ?_⟩ (aAllc ⟨_, rfl, (fF_b (r := 2465) (by decide) rfl).mpr ?_⟩ (fun f h => by cases h)))⟩
    · refine ⟨by decide, _, _, rfl, p5, fun j hj => ?_⟩
      rw [show 181 - 160 = 21 from rfl, fFst_20 j hj]
      unfold upd
      rw [hq]
      split
      · omega
      · exact l0 j hj
    · exact ⟨_, _, rfl, p5, p6⟩
theorem ae_BOputS21 {l : Launch} {E : jE} {K : Nat → Nat} {n : Nat} : aMe (fF K n) l E jcl jtb lw_tbl fa_T K n (fJX K n) ag_BOputS21 := by
  intro p σ ρ hH hX hA hM
  have hG := aAG_of hA.1 (fun i e v he hv => (hA.2 i e v he hv).1)
  clear hA
  obtain ⟨v0, v1, v2, rfl, g0, g1, g2⟩ := fA_3 hG
  clear hG
  obtain ⟨a, rfl, ha, hka⟩ := fG_ref (by decide) g0
  obtain ⟨s, rfl, bs, ds⟩ := aG_int g1
  obtain ⟨m, rfl, bm, dm⟩ := aG_int g2
  dsimp only at bs ds bm dm
  obtain ⟨-, -, -, m4⟩ := hM
  have f0 : fB K n p 181 [fR a] σ := by
    obtain ⟨w, e6, e7⟩ := m4 (2897, [0]) (List.mem_of_getElem? (i := 0) rfl)
    obtain rfl : [fR a] = w := Option.some.inj (show some [fR a] = some w from e6)
    exact (fF_b (r := 2897) (by decide) rfl).mp e7
  have f1 : fB K n p 154 [fR a] σ := by
    obtain ⟨w, e6, e7⟩ := m4 (2465, [0]) (List.mem_of_getElem? (i := 1) rfl)
    obtain rfl : [fR a] = w := Option.some.inj (show some [fR a] = some w from e6)
    exact (fF_b (r := 2465) (by decide) rfl).mp e7
  clear m4
  obtain ⟨-, b, g, e, w, l0⟩ := f0
  cases e
  obtain ⟨b, g9, e, w9, u⟩ := f1
  cases e
  obtain rfl := fMe_u w9 w
  have hq : s.toInt.toNat = 13 := by omega
  refine jMet_post (fPutX hH hX ha hka ⟨by omega, by omega⟩ ⟨by omega, by omega⟩ w u (by rw [hq]; exact (l0 13 (by decide)).trans rfl)) (fun r σ' n' hp => ?_)
  obtain ⟨rfl, p1, p2, p3, p4, rfl, p5, p6⟩ := hp
  refine ⟨rfl, p1, p2, p3, p4 _, rfl, [], ?_, ?_, [], List.mem_cons_self, fun f h => (by cases h)⟩
  · refine ⟨rfl, fun i e v he hv => ?_⟩
    match i, he, hv with
    | 0, he, hv => obtain rfl := Option.some.inj he; obtain rfl := Option.some.inj hv; exact ⟨⟨ha, Or.inl hka⟩, trivial⟩
    | 1, he, hv => obtain rfl := Option.some.inj he; obtain rfl := Option.some.inj hv; exact ⟨⟨bs, ds⟩, trivial⟩
    | 2, he, hv => obtain rfl := Option.some.inj he; obtain rfl := Option.some.inj hv; exact ⟨⟨bm, dm⟩, trivial⟩
    | k + 3, he, hv => simp [aPe, ag_BOputS21] at he
  · refine ⟨fun q h => (by cases h), fun q h => (by cases h), fun q h => (by cases h), (aAllc ⟨_, rfl, (fF_b (r := 2913) (by decide) rfl).mpr ?_⟩ (aAllc ⟨_, rfl, (fF_b (r := 2465) (by decide) rfl).mpr ?_⟩ (fun f h => by cases h)))⟩
    · refine ⟨by decide, _, _, rfl, p5, fun j hj => ?_⟩
      rw [show 182 - 160 = 22 from rfl, fFst_21 j hj]
      unfold upd
      rw [hq]
      split
      · omega
      · exact l0 j hj
    · exact ⟨_, _, rfl, p5, p6⟩
theorem ae_BOputS22 {l : Launch} {E : jE} {K : Nat → Nat} {n : Nat} : aMe (fF K n) l E jcl jtb lw_tbl fa_T K n (fJX K n) ag_BOputS22 := by
  intro p σ ρ hH hX hA hM
  have hG := aAG_of hA.1 (fun i e v he hv => (hA.2 i e v he hv).1)
  clear hA
  obtain ⟨v0, v1, v2, rfl, g0, g1, g2⟩ := fA_3 hG
  clear hG
  obtain ⟨a, rfl, ha, hka⟩ := fG_ref (by decide) g0
  obtain ⟨s, rfl, bs, ds⟩ := aG_int g1
  obtain ⟨m, rfl, bm, dm⟩ := aG_int g2
  dsimp only at bs ds bm dm
  obtain ⟨-, -, -, m4⟩ := hM
  have f0 : fB K n p 182 [fR a] σ := by
    obtain ⟨w, e6, e7⟩ := m4 (2913, [0]) (List.mem_of_getElem? (i := 0) rfl)
    obtain rfl : [fR a] = w := Option.some.inj (show some [fR a] = some w from e6)
    exact (fF_b (r := 2913) (by decide) rfl).mp e7
  have f1 : fB K n p 154 [fR a] σ := by
    obtain ⟨w, e6, e7⟩ := m4 (2465, [0]) (List.mem_of_getElem? (i := 1) rfl)
    obtain rfl : [fR a] = w := Option.some.inj (show some [fR a] = some w from e6)
    exact (fF_b (r := 2465) (by decide) rfl).mp e7
  clear m4
  obtain ⟨-, b, g, e, w, l0⟩ := f0
  cases e
  obtain ⟨b, g9, e, w9, u⟩ := f1
  cases e
  obtain rfl := fMe_u w9 w
  have hq : s.toInt.toNat = 53 := by omega
  refine jMet_post (fPutX hH hX ha hka ⟨by omega, by omega⟩ ⟨by omega, by omega⟩ w u (by rw [hq]; exact (l0 53 (by decide)).trans rfl)) (fun r σ' n' hp => ?_)
  obtain ⟨rfl, p1, p2, p3, p4, rfl, p5, p6⟩ := hp
  refine ⟨rfl, p1, p2, p3, p4 _, rfl, [], ?_, ?_, [], List.mem_cons_self, fun f h => (by cases h)⟩
  · refine ⟨rfl, fun i e v he hv => ?_⟩
    match i, he, hv with
    | 0, he, hv => obtain rfl := Option.some.inj he; obtain rfl := Option.some.inj hv; exact ⟨⟨ha, Or.inl hka⟩, trivial⟩
    | 1, he, hv => obtain rfl := Option.some.inj he; obtain rfl := Option.some.inj hv; exact ⟨⟨bs, ds⟩, trivial⟩
    | 2, he, hv => obtain rfl := Option.some.inj he; obtain rfl := Option.some.inj hv; exact ⟨⟨bm, dm⟩, trivial⟩
    | k + 3, he, hv => simp [aPe, ag_BOputS22] at he
  · refine ⟨fun q h => (by cases h), fun q h => (by cases h), fun q h => (by cases h), (aAllc ⟨_, rfl, (fF_b (r := 2929) (by decide) rfl).mpr ?_⟩ (aAllc ⟨_, rfl, (fF_b (r := 2465) (by decide) rfl).mpr ?_⟩ (fun f h => by cases h)))⟩
    · refine ⟨by decide, _, _, rfl, p5, fun j hj => ?_⟩
      rw [show 183 - 160 = 23 from rfl, fFst_22 j hj]
      unfold upd
      rw [hq]
      split
      · omega
      · exact l0 j hj
    · exact ⟨_, _, rfl, p5, p6⟩
theorem ae_BOputS23 {l : Launch} {E : jE} {K : Nat → Nat} {n : Nat} : aMe (fF K n) l E jcl jtb lw_tbl fa_T K n (fJX K n) ag_BOputS23 := by
  intro p σ ρ hH hX hA hM
  have hG := aAG_of hA.1 (fun i e v he hv => (hA.2 i e v he hv).1)
  clear hA
  obtain ⟨v0, v1, v2, rfl, g0, g1, g2⟩ := fA_3 hG
  clear hG
  obtain ⟨a, rfl, ha, hka⟩ := fG_ref (by decide) g0
  obtain ⟨s, rfl, bs, ds⟩ := aG_int g1
  obtain ⟨m, rfl, bm, dm⟩ := aG_int g2
  dsimp only at bs ds bm dm
  obtain ⟨-, -, -, m4⟩ := hM
  have f0 : fB K n p 183 [fR a] σ := by
    obtain ⟨w, e6, e7⟩ := m4 (2929, [0]) (List.mem_of_getElem? (i := 0) rfl)
    obtain rfl : [fR a] = w := Option.some.inj (show some [fR a] = some w from e6)
    exact (fF_b (r := 2929) (by decide) rfl).mp e7
  have f1 : fB K n p 154 [fR a] σ := by
    obtain ⟨w, e6, e7⟩ := m4 (2465, [0]) (List.mem_of_getElem? (i := 1) rfl)
    obtain rfl : [fR a] = w := Option.some.inj (show some [fR a] = some w from e6)
    exact (fF_b (r := 2465) (by decide) rfl).mp e7
  clear m4
  obtain ⟨-, b, g, e, w, l0⟩ := f0
  cases e
  obtain ⟨b, g9, e, w9, u⟩ := f1
  cases e
  obtain rfl := fMe_u w9 w
  have hq : s.toInt.toNat = 61 := by omega
  refine jMet_post (fPutX hH hX ha hka ⟨by omega, by omega⟩ ⟨by omega, by omega⟩ w u (by rw [hq]; exact (l0 61 (by decide)).trans rfl)) (fun r σ' n' hp => ?_)
  obtain ⟨rfl, p1, p2, p3, p4, rfl, p5, p6⟩ := hp
  refine ⟨rfl, p1, p2, p3, p4 _, rfl, [], ?_, ?_, [], List.mem_cons_self, fun f h => (by cases h)⟩
  · refine ⟨rfl, fun i e v he hv => ?_⟩
    match i, he, hv with
    | 0, he, hv => obtain rfl := Option.some.inj he; obtain rfl := Option.some.inj hv; exact ⟨⟨ha, Or.inl hka⟩, trivial⟩
    | 1, he, hv => obtain rfl := Option.some.inj he; obtain rfl := Option.some.inj hv; exact ⟨⟨bs, ds⟩, trivial⟩
    | 2, he, hv => obtain rfl := Option.some.inj he; obtain rfl := Option.some.inj hv; exact ⟨⟨bm, dm⟩, trivial⟩
    | k + 3, he, hv => simp [aPe, ag_BOputS23] at he
  · refine ⟨fun q h => (by cases h), fun q h => (by cases h), fun q h => (by cases h), (aAllc ⟨_, rfl, (fF_b (r := 2945) (by decide) rfl).mpr ?_⟩ (aAllc ⟨_, rfl, (fF_b (r := 2465) (by decide) rfl).mpr ?_⟩ (fun f h => by cases h)))⟩
    · refine ⟨by decide, _, _, rfl, p5, fun j hj => ?_⟩
      rw [show 184 - 160 = 24 from rfl, fFst_23 j hj]
      unfold upd
      rw [hq]
      split
      · omega
      · exact l0 j hj
    · exact ⟨_, _, rfl, p5, p6⟩
theorem ae_BOputS24 {l : Launch} {E : jE} {K : Nat → Nat} {n : Nat} : aMe (fF K n) l E jcl jtb lw_tbl fa_T K n (fJX K n) ag_BOputS24 := by
  intro p σ ρ hH hX hA hM
  have hG := aAG_of hA.1 (fun i e v he hv => (hA.2 i e v he hv).1)
  clear hA
  obtain ⟨v0, v1, v2, rfl, g0, g1, g2⟩ := fA_3 hG
  clear hG
  obtain ⟨a, rfl, ha, hka⟩ := fG_ref (by decide) g0
  obtain ⟨s, rfl, bs, ds⟩ := aG_int g1
  obtain ⟨m, rfl, bm, dm⟩ := aG_int g2
  dsimp only at bs ds bm dm
  obtain ⟨-, -, -, m4⟩ := hM
  have f0 : fB K n p 184 [fR a] σ := by
    obtain ⟨w, e6, e7⟩ := m4 (2945, [0]) (List.mem_of_getElem? (i := 0) rfl)
    obtain rfl : [fR a] = w := Option.some.inj (show some [fR a] = some w from e6)
    exact (fF_b (r := 2945) (by decide) rfl).mp e7
  have f1 : fB K n p 154 [fR a] σ := by
    obtain ⟨w, e6, e7⟩ := m4 (2465, [0]) (List.mem_of_getElem? (i := 1) rfl)
    obtain rfl : [fR a] = w := Option.some.inj (show some [fR a] = some w from e6)
    exact (fF_b (r := 2465) (by decide) rfl).mp e7
  clear m4
  obtain ⟨-, b, g, e, w, l0⟩ := f0
  cases e
  obtain ⟨b, g9, e, w9, u⟩ := f1
  cases e
  obtain rfl := fMe_u w9 w
  have hq : s.toInt.toNat = 6 := by omega
  refine jMet_post (fPutX hH hX ha hka ⟨by omega, by omega⟩ ⟨by omega, by omega⟩ w u (by rw [hq]; exact (l0 6 (by decide)).trans rfl)) (fun r σ' n' hp => ?_)
  obtain ⟨rfl, p1, p2, p3, p4, rfl, p5, p6⟩ := hp
  refine ⟨rfl, p1, p2, p3, p4 _, rfl, [], ?_, ?_, [], List.mem_cons_self, fun f h => (by cases h)⟩
  · refine ⟨rfl, fun i e v he hv => ?_⟩
    match i, he, hv with
    | 0, he, hv => obtain rfl := Option.some.inj he; obtain rfl := Option.some.inj hv; exact ⟨⟨ha, Or.inl hka⟩, trivial⟩
    | 1, he, hv => obtain rfl := Option.some.inj he; obtain rfl := Option.some.inj hv; exact ⟨⟨bs, ds⟩, trivial⟩
    | 2, he, hv => obtain rfl := Option.some.inj he; obtain rfl := Option.some.inj hv; exact ⟨⟨bm, dm⟩, trivial⟩
    | k + 3, he, hv => simp [aPe, ag_BOputS24] at he
  · refine ⟨fun q h => (by cases h), fun q h => (by cases h), fun q h => (by cases h), (aAllc ⟨_, rfl, (fF_b (r := 2961) (by decide) rfl).mpr ?_⟩ (aAllc ⟨_, rfl, (fF_b (r := 2465) (by decide) rfl).mpr ?_⟩ (fun f h => by cases h)))⟩
    · refine ⟨by decide, _, _, rfl, p5, fun j hj => ?_⟩
      rw [show 185 - 160 = 25 from rfl, fFst_24 j hj]
      unfold upd
      rw [hq]
      split
      · omega
      · exact l0 j hj
    · exact ⟨_, _, rfl, p5, p6⟩
theorem ae_BOputS25 {l : Launch} {E : jE} {K : Nat → Nat} {n : Nat} : aMe (fF K n) l E jcl jtb lw_tbl fa_T K n (fJX K n) ag_BOputS25 := by
  intro p σ ρ hH hX hA hM
  have hG := aAG_of hA.1 (fun i e v he hv => (hA.2 i e v he hv).1)
  clear hA
  obtain ⟨v0, v1, v2, rfl, g0, g1, g2⟩ := fA_3 hG
  clear hG
  obtain ⟨a, rfl, ha, hka⟩ := fG_ref (by decide) g0
  obtain ⟨s, rfl, bs, ds⟩ := aG_int g1
  obtain ⟨m, rfl, bm, dm⟩ := aG_int g2
  dsimp only at bs ds bm dm
  obtain ⟨-, -, -, m4⟩ := hM
  have f0 : fB K n p 185 [fR a] σ := by
    obtain ⟨w, e6, e7⟩ := m4 (2961, [0]) (List.mem_of_getElem? (i := 0) rfl)
    obtain rfl : [fR a] = w := Option.some.inj (show some [fR a] = some w from e6)
    exact (fF_b (r := 2961) (by decide) rfl).mp e7
  have f1 : fB K n p 154 [fR a] σ := by
    obtain ⟨w, e6, e7⟩ := m4 (2465, [0]) (List.mem_of_getElem? (i := 1) rfl)
    obtain rfl : [fR a] = w := Option.some.inj (show some [fR a] = some w from e6)
    exact (fF_b (r := 2465) (by decide) rfl).mp e7
  clear m4
  obtain ⟨-, b, g, e, w, l0⟩ := f0
  cases e
  obtain ⟨b, g9, e, w9, u⟩ := f1
  cases e
  obtain rfl := fMe_u w9 w
  have hq : s.toInt.toNat = 14 := by omega
  refine jMet_post (fPutX hH hX ha hka ⟨by omega, by omega⟩ ⟨by omega, by omega⟩ w u (by rw [hq]; exact (l0 14 (by decide)).trans rfl)) (fun r σ' n' hp => ?_)
  obtain ⟨rfl, p1, p2, p3, p4, rfl, p5, p6⟩ := hp
  refine ⟨rfl, p1, p2, p3, p4 _, rfl, [], ?_, ?_, [], List.mem_cons_self, fun f h => (by cases h)⟩
  · refine ⟨rfl, fun i e v he hv => ?_⟩
    match i, he, hv with
    | 0, he, hv => obtain rfl := Option.some.inj he; obtain rfl := Option.some.inj hv; exact ⟨⟨ha, Or.inl hka⟩, trivial⟩
    | 1, he, hv => obtain rfl := Option.some.inj he; obtain rfl := Option.some.inj hv; exact ⟨⟨bs, ds⟩, trivial⟩
    | 2, he, hv => obtain rfl := Option.some.inj he; obtain rfl := Option.some.inj hv; exact ⟨⟨bm, dm⟩, trivial⟩
    | k + 3, he, hv => simp [aPe, ag_BOputS25] at he
  · refine ⟨fun q h => (by cases h), fun q h => (by cases h), fun q h => (by cases h), (aAllc ⟨_, rfl, (fF_b (r := 2977) (by decide) rfl).mpr ?_⟩ (aAllc ⟨_, rfl, (fF_b (r := 2465) (by decide) rfl).mpr ?_⟩ (fun f h => by cases h)))⟩
    · refine ⟨by decide, _, _, rfl, p5, fun j hj => ?_⟩
      rw [show 186 - 160 = 26 from rfl, fFst_25 j hj]
      unfold upd
      rw [hq]
      split
      · omega
      · exact l0 j hj
    · exact ⟨_, _, rfl, p5, p6⟩
theorem ae_BOputS26 {l : Launch} {E : jE} {K : Nat → Nat} {n : Nat} : aMe (fF K n) l E jcl jtb lw_tbl fa_T K n (fJX K n) ag_BOputS26 := by
  intro p σ ρ hH hX hA hM
  have hG := aAG_of hA.1 (fun i e v he hv => (hA.2 i e v he hv).1)
  clear hA
  obtain ⟨v0, v1, v2, rfl, g0, g1, g2⟩ := fA_3 hG
  clear hG
  obtain ⟨a, rfl, ha, hka⟩ := fG_ref (by decide) g0
  obtain ⟨s, rfl, bs, ds⟩ := aG_int g1
  obtain ⟨m, rfl, bm, dm⟩ := aG_int g2
  dsimp only at bs ds bm dm
  obtain ⟨-, -, -, m4⟩ := hM
  have f0 : fB K n p 186 [fR a] σ := by
    obtain ⟨w, e6, e7⟩ := m4 (2977, [0]) (List.mem_of_getElem? (i := 0) rfl)
    obtain rfl : [fR a] = w := Option.some.inj (show some [fR a] = some w from e6)
    exact (fF_b (r := 2977) (by decide) rfl).mp e7
  have f1 : fB K n p 154 [fR a] σ := by
    obtain ⟨w, e6, e7⟩ := m4 (2465, [0]) (List.mem_of_getElem? (i := 1) rfl)
    obtain rfl : [fR a] = w := Option.some.inj (show some [fR a] = some w from e6)
    exact (fF_b (r := 2465) (by decide) rfl).mp e7
  clear m4
  obtain ⟨-, b, g, e, w, l0⟩ := f0
  cases e
  obtain ⟨b, g9, e, w9, u⟩ := f1
  cases e
  obtain rfl := fMe_u w9 w
  have hq : s.toInt.toNat = 54 := by omega
  refine jMet_post (fPutX hH hX ha hka ⟨by omega, by omega⟩ ⟨by omega, by omega⟩ w u (by rw [hq]; exact (l0 54 (by decide)).trans rfl)) (fun r σ' n' hp => ?_)
  obtain ⟨rfl, p1, p2, p3, p4, rfl, p5, p6⟩ := hp
  refine ⟨rfl, p1, p2, p3, p4 _, rfl, [], ?_, ?_, [], List.mem_cons_self, fun f h => (by cases h)⟩
  · refine ⟨rfl, fun i e v he hv => ?_⟩
    match i, he, hv with
    | 0, he, hv => obtain rfl := Option.some.inj he; obtain rfl := Option.some.inj hv; exact ⟨⟨ha, Or.inl hka⟩, trivial⟩
    | 1, he, hv => obtain rfl := Option.some.inj he; obtain rfl := Option.some.inj hv; exact ⟨⟨bs, ds⟩, trivial⟩
    | 2, he, hv => obtain rfl := Option.some.inj he; obtain rfl := Option.some.inj hv; exact ⟨⟨bm, dm⟩, trivial⟩
    | k + 3, he, hv => simp [aPe, ag_BOputS26] at he
  · refine ⟨fun q h => (by cases h), fun q h => (by cases h), fun q h => (by cases h), (aAllc ⟨_, rfl, (fF_b (r := 2993) (by decide) rfl).mpr ?_⟩ (aAllc ⟨_, rfl, (fF_b (r := 2465) (by decide) rfl).mpr ?_⟩ (fun f h => by cases h)))⟩
    · refine ⟨by decide, _, _, rfl, p5, fun j hj => ?_⟩
      rw [show 187 - 160 = 27 from rfl, fFst_26 j hj]
      unfold upd
      rw [hq]
      split
      · omega
      · exact l0 j hj
    · exact ⟨_, _, rfl, p5, p6⟩
theorem ae_BOputS27 {l : Launch} {E : jE} {K : Nat → Nat} {n : Nat} : aMe (fF K n) l E jcl jtb lw_tbl fa_T K n (fJX K n) ag_BOputS27 := by
  intro p σ ρ hH hX hA hM
  have hG := aAG_of hA.1 (fun i e v he hv => (hA.2 i e v he hv).1)
  clear hA
  obtain ⟨v0, v1, v2, rfl, g0, g1, g2⟩ := fA_3 hG
  clear hG
  obtain ⟨a, rfl, ha, hka⟩ := fG_ref (by decide) g0
  obtain ⟨s, rfl, bs, ds⟩ := aG_int g1
  obtain ⟨m, rfl, bm, dm⟩ := aG_int g2
  dsimp only at bs ds bm dm
  obtain ⟨-, -, -, m4⟩ := hM
  have f0 : fB K n p 187 [fR a] σ := by
    obtain ⟨w, e6, e7⟩ := m4 (2993, [0]) (List.mem_of_getElem? (i := 0) rfl)
    obtain rfl : [fR a] = w := Option.some.inj (show some [fR a] = some w from e6)
    exact (fF_b (r := 2993) (by decide) rfl).mp e7
  have f1 : fB K n p 154 [fR a] σ := by
    obtain ⟨w, e6, e7⟩ := m4 (2465, [0]) (List.mem_of_getElem? (i := 1) rfl)
    obtain rfl : [fR a] = w := Option.some.inj (show some [fR a] = some w from e6)
    exact (fF_b (r := 2465) (by decide) rfl).mp e7
  clear m4
  obtain ⟨-, b, g, e, w, l0⟩ := f0
  cases e
  obtain ⟨b, g9, e, w9, u⟩ := f1
  cases e
  obtain rfl := fMe_u w9 w
  have hq : s.toInt.toNat = 62 := by omega
  refine jMet_post (fPutX hH hX ha hka ⟨by omega, by omega⟩ ⟨by omega, by omega⟩ w u (by rw [hq]; exact (l0 62 (by decide)).trans rfl)) (fun r σ' n' hp => ?_)
  obtain ⟨rfl, p1, p2, p3, p4, rfl, p5, p6⟩ := hp
  refine ⟨rfl, p1, p2, p3, p4 _, rfl, [], ?_, ?_, [], List.mem_cons_self, fun f h => (by cases h)⟩
  · refine ⟨rfl, fun i e v he hv => ?_⟩
    match i, he, hv with
    | 0, he, hv => obtain rfl := Option.some.inj he; obtain rfl := Option.some.inj hv; exact ⟨⟨ha, Or.inl hka⟩, trivial⟩
    | 1, he, hv => obtain rfl := Option.some.inj he; obtain rfl := Option.some.inj hv; exact ⟨⟨bs, ds⟩, trivial⟩
    | 2, he, hv => obtain rfl := Option.some.inj he; obtain rfl := Option.some.inj hv; exact ⟨⟨bm, dm⟩, trivial⟩
    | k + 3, he, hv => simp [aPe, ag_BOputS27] at he
  · refine ⟨fun q h => (by cases h), fun q h => (by cases h), fun q h => (by cases h), (aAllc ⟨_, rfl, (fF_b (r := 3009) (by decide) rfl).mpr ?_⟩ (aAllc ⟨_, rfl, (fF_b (r := 2465) (by decide) rfl).mpr ?_⟩ (fun f h => by cases h)))⟩
    · refine ⟨by decide, _, _, rfl, p5, fun j hj => ?_⟩
      rw [show 188 - 160 = 28 from rfl, fFst_27 j hj]
      unfold upd
      rw [hq]
      split
      · omega
      · exact l0 j hj
    · exact ⟨_, _, rfl, p5, p6⟩
theorem ae_BOputS28 {l : Launch} {E : jE} {K : Nat → Nat} {n : Nat} : aMe (fF K n) l E jcl jtb lw_tbl fa_T K n (fJX K n) ag_BOputS28 := by
  intro p σ ρ hH hX hA hM
  have hG := aAG_of hA.1 (fun i e v he hv => (hA.2 i e v he hv).1)
  clear hA
  obtain ⟨v0, v1, v2, rfl, g0, g1, g2⟩ := fA_3 hG
  clear hG
  obtain ⟨a, rfl, ha, hka⟩ := fG_ref (by decide) g0
  obtain ⟨s, rfl, bs, ds⟩ := aG_int g1
  obtain ⟨m, rfl, bm, dm⟩ := aG_int g2
  dsimp only at bs ds bm dm
  obtain ⟨-, -, -, m4⟩ := hM
  have f0 : fB K n p 188 [fR a] σ := by
    obtain ⟨w, e6, e7⟩ := m4 (3009, [0]) (List.mem_of_getElem? (i := 0) rfl)
    obtain rfl : [fR a] = w := Option.some.inj (show some [fR a] = some w from e6)
    exact (fF_b (r := 3009) (by decide) rfl).mp e7
  have f1 : fB K n p 154 [fR a] σ := by
    obtain ⟨w, e6, e7⟩ := m4 (2465, [0]) (List.mem_of_getElem? (i := 1) rfl)
    obtain rfl : [fR a] = w := Option.some.inj (show some [fR a] = some w from e6)
    exact (fF_b (r := 2465) (by decide) rfl).mp e7
  clear m4
  obtain ⟨-, b, g, e, w, l0⟩ := f0
  cases e
  obtain ⟨b, g9, e, w9, u⟩ := f1
  cases e
  obtain rfl := fMe_u w9 w
  have hq : s.toInt.toNat = 7 := by omega
  refine jMet_post (fPutX hH hX ha hka ⟨by omega, by omega⟩ ⟨by omega, by omega⟩ w u (by rw [hq]; exact (l0 7 (by decide)).trans rfl)) (fun r σ' n' hp => ?_)
  obtain ⟨rfl, p1, p2, p3, p4, rfl, p5, p6⟩ := hp
  refine ⟨rfl, p1, p2, p3, p4 _, rfl, [], ?_, ?_, [], List.mem_cons_self, fun f h => (by cases h)⟩
  · refine ⟨rfl, fun i e v he hv => ?_⟩
    match i, he, hv with
    | 0, he, hv => obtain rfl := Option.some.inj he; obtain rfl := Option.some.inj hv; exact ⟨⟨ha, Or.inl hka⟩, trivial⟩
    | 1, he, hv => obtain rfl := Option.some.inj he; obtain rfl := Option.some.inj hv; exact ⟨⟨bs, ds⟩, trivial⟩
    | 2, he, hv => obtain rfl := Option.some.inj he; obtain rfl := Option.some.inj hv; exact ⟨⟨bm, dm⟩, trivial⟩
    | k + 3, he, hv => simp [aPe, ag_BOputS28] at he
  · refine ⟨fun q h => (by cases h), fun q h => (by cases h), fun q h => (by cases h), (aAllc ⟨_, rfl, (fF_b (r := 3025) (by decide) rfl).mpr ?_⟩ (aAllc ⟨_, rfl, (fF_b (r := 2465) (by decide) rfl).mpr ?_⟩ (fun f h => by cases h)))⟩
    · refine ⟨by decide, _, _, rfl, p5, fun j hj => ?_⟩
      rw [show 189 - 160 = 29 from rfl, fFst_28 j hj]
      unfold upd
      rw [hq]
      split
      · omega
      · exact l0 j hj
    · exact ⟨_, _, rfl, p5, p6⟩
theorem ae_BOputS29 {l : Launch} {E : jE} {K : Nat → Nat} {n : Nat} : aMe (fF K n) l E jcl jtb lw_tbl fa_T K n (fJX K n) ag_BOputS29 := by
  intro p σ ρ hH hX hA hM
  have hG := aAG_of hA.1 (fun i e v he hv => (hA.2 i e v he hv).1)
  clear hA
  obtain ⟨v0, v1, v2, rfl, g0, g1, g2⟩ := fA_3 hG
  clear hG
  obtain ⟨a, rfl, ha, hka⟩ := fG_ref (by decide) g0
  obtain ⟨s, rfl, bs, ds⟩ := aG_int g1
  obtain ⟨m, rfl, bm, dm⟩ := aG_int g2
  dsimp only at bs ds bm dm
  obtain ⟨-, -, -, m4⟩ := hM
  have f0 : fB K n p 189 [fR a] σ := by
    obtain ⟨w, e6, e7⟩ := m4 (3025, [0]) (List.mem_of_getElem? (i := 0) rfl)
    obtain rfl : [fR a] = w := Option.some.inj (show some [fR a] = some w from e6)
    exact (fF_b (r := 3025) (by decide) rfl).mp e7
  have f1 : fB K n p 154 [fR a] σ := by
    obtain ⟨w, e6, e7⟩ := m4 (2465, [0]) (List.mem_of_getElem? (i := 1) rfl)
    obtain rfl : [fR a] = w := Option.some.inj (show some [fR a] = some w from e6)
    exact (fF_b (r := 2465) (by decide) rfl).mp e7
  clear m4
  obtain ⟨-, b, g, e, w, l0⟩ := f0
  cases e
  obtain ⟨b, g9, e, w9, u⟩ := f1
  cases e
  obtain rfl := fMe_u w9 w
  have hq : s.toInt.toNat = 15 := by omega
  refine jMet_post (fPutX hH hX ha hka ⟨by omega, by omega⟩ ⟨by omega, by omega⟩ w u (by rw [hq]; exact (l0 15 (by decide)).trans rfl)) (fun r σ' n' hp => ?_)
  obtain ⟨rfl, p1, p2, p3, p4, rfl, p5, p6⟩ := hp
  refine ⟨rfl, p1, p2, p3, p4 _, rfl, [], ?_, ?_, [], List.mem_cons_self, fun f h => (by cases h)⟩
  · refine ⟨rfl, fun i e v he hv => ?_⟩
    match i, he, hv with
    | 0, he, hv => obtain rfl := Option.some.inj he; obtain rfl := Option.some.inj hv; exact ⟨⟨ha, Or.inl hka⟩, trivial⟩
    | 1, he, hv => obtain rfl := Option.some.inj he; obtain rfl := Option.some.inj hv; exact ⟨⟨bs, ds⟩, trivial⟩
    | 2, he, hv => obtain rfl := Option.some.inj he; obtain rfl := Option.some.inj hv; exact ⟨⟨bm, dm⟩, trivial⟩
    | k + 3, he, hv => simp [aPe, ag_BOputS29] at he
  · refine ⟨fun q h => (by cases h), fun q h => (by cases h), fun q h => (by cases h), (aAllc ⟨_, rfl, (fF_b (r := 3041) (by decide) rfl).mpr ?_⟩ (aAllc ⟨_, rfl, (fF_b (r := 2465) (by decide) rfl).mpr ?_⟩ (fun f h => by cases h)))⟩
    · refine ⟨by decide, _, _, rfl, p5, fun j hj => ?_⟩
      rw [show 190 - 160 = 30 from rfl, fFst_29 j hj]
      unfold upd
      rw [hq]
      split
      · omega
      · exact l0 j hj
    · exact ⟨_, _, rfl, p5, p6⟩
theorem ae_BOputS30 {l : Launch} {E : jE} {K : Nat → Nat} {n : Nat} : aMe (fF K n) l E jcl jtb lw_tbl fa_T K n (fJX K n) ag_BOputS30 := by
  intro p σ ρ hH hX hA hM
  have hG := aAG_of hA.1 (fun i e v he hv => (hA.2 i e v he hv).1)
  clear hA
  obtain ⟨v0, v1, v2, rfl, g0, g1, g2⟩ := fA_3 hG
  clear hG
  obtain ⟨a, rfl, ha, hka⟩ := fG_ref (by decide) g0
  obtain ⟨s, rfl, bs, ds⟩ := aG_int g1
  obtain ⟨m, rfl, bm, dm⟩ := aG_int g2
  dsimp only at bs ds bm dm
  obtain ⟨-, -, -, m4⟩ := hM
  have f0 : fB K n p 190 [fR a] σ := by
    obtain ⟨w, e6, e7⟩ := m4 (3041, [0]) (List.mem_of_getElem? (i := 0) rfl)
    obtain rfl : [fR a] = w := Option.some.inj (show some [fR a] = some w from e6)
    exact (fF_b (r := 3041) (by decide) rfl).mp e7
  have f1 : fB K n p 154 [fR a] σ := by
    obtain ⟨w, e6, e7⟩ := m4 (2465, [0]) (List.mem_of_getElem? (i := 1) rfl)
    obtain rfl : [fR a] = w := Option.some.inj (show some [fR a] = some w from e6)
    exact (fF_b (r := 2465) (by decide) rfl).mp e7
  clear m4
  obtain ⟨-, b, g, e, w, l0⟩ := f0
  cases e
  obtain ⟨b, g9, e, w9, u⟩ := f1
  cases e
  obtain rfl := fMe_u w9 w
  have hq : s.toInt.toNat = 55 := by omega
  refine jMet_post (fPutX hH hX ha hka ⟨by omega, by omega⟩ ⟨by omega, by omega⟩ w u (by rw [hq]; exact (l0 55 (by decide)).trans rfl)) (fun r σ' n' hp => ?_)
  obtain ⟨rfl, p1, p2, p3, p4, rfl, p5, p6⟩ := hp
  refine ⟨rfl, p1, p2, p3, p4 _, rfl, [], ?_, ?_, [], List.mem_cons_self, fun f h => (by cases h)⟩
  · refine ⟨rfl, fun i e v he hv => ?_⟩
    match i, he, hv with
    | 0, he, hv => obtain rfl := Option.some.inj he; obtain rfl := Option.some.inj hv; exact ⟨⟨ha, Or.inl hka⟩, trivial⟩
    | 1, he, hv => obtain rfl := Option.some.inj he; obtain rfl := Option.some.inj hv; exact ⟨⟨bs, ds⟩, trivial⟩
    | 2, he, hv => obtain rfl := Option.some.inj he; obtain rfl := Option.some.inj hv; exact ⟨⟨bm, dm⟩, trivial⟩
    | k + 3, he, hv => simp [aPe, ag_BOputS30] at he
  · refine ⟨fun q h => (by cases h), fun q h => (by cases h), fun q h => (by cases h), (aAllc ⟨_, rfl, (fF_b (r := 3057) (by decide) rfl).mpr ?_⟩ (aAllc ⟨_, rfl, (fF_b (r := 2465) (by decide) rfl).mpr ?_⟩ (fun f h => by cases h)))⟩
    · refine ⟨by decide, _, _, rfl, p5, fun j hj => ?_⟩
      rw [show 191 - 160 = 31 from rfl, fFst_30 j hj]
      unfold upd
      rw [hq]
      split
      · omega
      · exact l0 j hj
    · exact ⟨_, _, rfl, p5, p6⟩
theorem ae_BOputS31 {l : Launch} {E : jE} {K : Nat → Nat} {n : Nat} : aMe (fF K n) l E jcl jtb lw_tbl fa_T K n (fJX K n) ag_BOputS31 := by
  intro p σ ρ hH hX hA hM
  have hG := aAG_of hA.1 (fun i e v he hv => (hA.2 i e v he hv).1)
  clear hA
  obtain ⟨v0, v1, v2, rfl, g0, g1, g2⟩ := fA_3 hG
  clear hG
  obtain ⟨a, rfl, ha, hka⟩ := fG_ref (by decide) g0
  obtain ⟨s, rfl, bs, ds⟩ := aG_int g1
  obtain ⟨m, rfl, bm, dm⟩ := aG_int g2
  dsimp only at bs ds bm dm
  obtain ⟨-, -, -, m4⟩ := hM
  have f0 : fB K n p 191 [fR a] σ := by
    obtain ⟨w, e6, e7⟩ := m4 (3057, [0]) (List.mem_of_getElem? (i := 0) rfl)
    obtain rfl : [fR a] = w := Option.some.inj (show some [fR a] = some w from e6)
    exact (fF_b (r := 3057) (by decide) rfl).mp e7
  have f1 : fB K n p 154 [fR a] σ := by
    obtain ⟨w, e6, e7⟩ := m4 (2465, [0]) (List.mem_of_getElem? (i := 1) rfl)
    obtain rfl : [fR a] = w := Option.some.inj (show some [fR a] = some w from e6)
    exact (fF_b (r := 2465) (by decide) rfl).mp e7
  clear m4
  obtain ⟨-, b, g, e, w, l0⟩ := f0
  cases e
  obtain ⟨b, g9, e, w9, u⟩ := f1
  cases e
  obtain rfl := fMe_u w9 w
  have hq : s.toInt.toNat = 63 := by omega
  refine jMet_post (fPutX hH hX ha hka ⟨by omega, by omega⟩ ⟨by omega, by omega⟩ w u (by rw [hq]; exact (l0 63 (by decide)).trans rfl)) (fun r σ' n' hp => ?_)
  obtain ⟨rfl, p1, p2, p3, p4, rfl, p5, p6⟩ := hp
  refine ⟨rfl, p1, p2, p3, p4 _, rfl, [], ?_, ?_, [], List.mem_cons_self, fun f h => (by cases h)⟩
  · refine ⟨rfl, fun i e v he hv => ?_⟩
    match i, he, hv with
    | 0, he, hv => obtain rfl := Option.some.inj he; obtain rfl := Option.some.inj hv; exact ⟨⟨ha, Or.inl hka⟩, trivial⟩
    | 1, he, hv => obtain rfl := Option.some.inj he; obtain rfl := Option.some.inj hv; exact ⟨⟨bs, ds⟩, trivial⟩
    | 2, he, hv => obtain rfl := Option.some.inj he; obtain rfl := Option.some.inj hv; exact ⟨⟨bm, dm⟩, trivial⟩
    | k + 3, he, hv => simp [aPe, ag_BOputS31] at he
  · refine ⟨fun q h => (by cases h), fun q h => (by cases h), fun q h => (by cases h), (aAllc ⟨_, rfl, (fF_b (r := 3073) (by decide) rfl).mpr ?_⟩ (aAllc ⟨_, rfl, (fF_b (r := 2465) (by decide) rfl).mpr ?_⟩ (fun f h => by cases h)))⟩
    · refine ⟨by decide, _, _, rfl, p5, fun j hj => ?_⟩
      rw [show 192 - 160 = 32 from rfl, fFst_31 j hj]
      unfold upd
      rw [hq]
      split
      · omega
      · exact l0 j hj
    · exact ⟨_, _, rfl, p5, p6⟩

