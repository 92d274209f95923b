/-! lemmas of the reference's positions -/
theorem rSp_b {s t f r : Int} (h0 : 0 ≤ s) (h1 : s ≤ 63) (e : t = rSp s f r) (h2 : 0 ≤ t) : rSp t (-f) (-r) = s ∧ t ≤ 63 := by
  unfold rSp at e ⊢
  split at e
  · rw [if_pos (by omega)]
    omega
  · omega
theorem rWn_b {M : Int → Int} {f r u m : Int} : ∀ {k : Nat} {s t : Int}, rWn M f r k t u → t = rSp s f r → 0 ≤ s → s ≤ 63 → rGf M (-f) (-r) s m → rGf M (-f) (-r) (rSp u (-f) (-r)) m
  | 0, _, _, h, _, _, _, _ => h.elim
  | k + 1, s, t, h, e, h0, h1, hg => by
    obtain ⟨h2, h3⟩ := h
    have h4 := rSp_b h0 h1 e h2
    rcases h3 with rfl | ⟨h5, h6⟩
    · rw [h4.1]; exact hg
    · exact rWn_b h6 rfl h2 h4.2 (rGf_n h2 h5 (by rw [h4.1]; exact hg))
theorem rWn_r {M : Int → Int} {f r u : Int} : ∀ {k : Nat} {s t : Int}, rWn M f r k t u → t = rSp s f r → 0 ≤ s → s ≤ 63 → 0 ≤ u ∧ u ≤ 63
  | 0, _, _, h, _, _, _ => h.elim
  | k + 1, s, t, h, e, h0, h1 => by
    obtain ⟨h2, h3⟩ := h
    have h4 := rSp_b h0 h1 e h2
    rcases h3 with rfl | ⟨h5, h6⟩
    · omega
    · exact rWn_r h6 rfl h2 h4.2
theorem rSq2 {f r : Int} (h1 : -2 ≤ f) (h2 : f ≤ 2) (h3 : -2 ≤ r) (h4 : r ≤ 2) (h : f * f + r * r ≤ 2) : -1 ≤ f ∧ f ≤ 1 ∧ -1 ≤ r ∧ r ≤ 1 := by
  have hf : f = -2 ∨ f = -1 ∨ f = 0 ∨ f = 1 ∨ f = 2 := by omega
  have hr : r = -2 ∨ r = -1 ∨ r = 0 ∨ r = 1 ∨ r = 2 := by omega
  rcases hf with rfl | rfl | rfl | rfl | rfl <;> rcases hr with rfl | rfl | rfl | rfl | rfl <;> omega
/-- a goal that takes a man attacks it -/
theorem rGO_at {q : rQ} {s u : Int} (hg : rGO q s u) (ho : rOwn q s) (hd : 0 ≤ q.2.1 ∧ q.2.1 ≤ 1) (hv : rVal q.1) (h0 : 0 ≤ s) (h1 : s ≤ 63) (h2 : 0 ≤ u) (h3 : u ≤ 63) (hm : ¬ q.1 u = 0) (hp : ¬ u = q.2.2.2) : rAk q.1 u q.2.1 := by
  obtain ⟨ho1, ho2⟩ := ho
  rcases hg with ⟨hk, hg⟩ | ⟨hk, hg⟩
  · rcases hg with hg | ⟨f, hf, hu, e, ht⟩
    · obtain ⟨-, g2, g3⟩ := hg
      rcases g3 with g3 | ⟨-, -, g3⟩
      · rw [← g3] at g2; exact absurd g2 hm
      · exact absurd g3 hm
    · have h4 := (rSp_b h0 h1 e hu).1
      have hx : ∀ g, g = -f → rP1 q.1 u q.2.1 g := fun g hg => by
        unfold rP1
        rw [hg, show 2 * q.2.1 - 1 = -(rUpw q) by unfold rUpw; omega, h4]
        exact ⟨h0, by omega⟩
      rcases hf with hf | hf
      · exact Or.inr (Or.inl (hx 1 (by omega)))
      · exact Or.inl (hx (-1) (by omega))
  · rcases hg with ⟨f, r, f1, f2, r1, r2, hg⟩ | ⟨hk6, hs, hc⟩
    · rcases hg with ⟨hg, -, e⟩ | ⟨hg, k, hw⟩
      · have h4 := (rSp_b h0 h1 e h2).1
        refine Or.inr (Or.inr ⟨-f, -r, by omega, by omega, by omega, by omega, ?_⟩)
        unfold rA1
        rw [Int.neg_mul_neg, Int.neg_mul_neg, h4]
        rcases hg with ⟨g1, g2⟩ | ⟨g1, g2, g3⟩
        · exact Or.inl ⟨g2, h0, by omega⟩
        · exact Or.inr ⟨g2, g3, Or.inl ⟨h0, by omega⟩⟩
      · have h4 := rWn_b (m := q.1 s) hw rfl h0 h1 (rGf_s h0 rfl ho1)
        refine Or.inr (Or.inr ⟨-f, -r, by omega, by omega, by omega, by omega, ?_⟩)
        unfold rA1
        rw [Int.neg_mul_neg, Int.neg_mul_neg]
        refine Or.inr ⟨by omega, by omega, Or.inr ⟨q.1 s, h4, ?_⟩⟩
        omega
    · exfalso
      rcases hc with ⟨hc, e⟩ | ⟨hc, e⟩
      · have := hc.2.1 u (by rw [if_pos rfl]; omega) (by rw [if_pos rfl]; omega)
        exact hm this
      · have := hc.2.1 u (by rw [if_neg (by decide)]; omega) (by rw [if_neg (by decide)]; omega)
        exact hm this
theorem rFr_r {m : Int} : 0 ≤ rFr m ∧ rFr m ≤ 63 := by unfold rFr; omega
theorem rTo_r {m : Int} : 0 ≤ rTo m ∧ rTo m ≤ 63 := by unfold rTo; omega
theorem rWh_r {q : rQ} {m : Int} : 0 ≤ rWh q m ∧ rWh q m ≤ 63 := by
  have h1 := rFr_r (m := m)
  have h2 := rTo_r (m := m)
  unfold rWh
  split <;> omega
/-- a king's move of two squares is castling -/
theorem rLm_ca {q : rQ} {m : Int} (hd : 0 ≤ q.2.1 ∧ q.2.1 ≤ 1) (hl : rLm q m) (hc : rIsC q m) : rFr m = 56 * q.2.1 + 4 ∧ rBc m = 0 ∧ q.1 (rTo m) = 0 ∧ q.1 (rOv (rFr m) (rTo m)) = 0 ∧ (rTo m = rFr m + 2 ∨ rTo m = rFr m - 2) := by
  obtain ⟨-, -, -, -, hg, hb⟩ := hl
  obtain ⟨hk, ht⟩ := hc
  have hf := rFr_r (m := m)
  have htr := rTo_r (m := m)
  have hb0 : rBc m = 0 := by
    rcases hb with ⟨h, -⟩ | ⟨-, h⟩
    · omega
    · exact h
  rcases hg with ⟨h, -⟩ | ⟨-, ⟨f, r, f1, f2, r1, r2, hg⟩ | ⟨-, hs, hc⟩⟩
  · omega
  · exfalso
    rcases hg with ⟨hg, -, e⟩ | ⟨hg, -⟩
    · have h2 : f * f + r * r ≤ 2 := by
        rcases hg with ⟨h, -⟩ | ⟨-, -, h⟩
        · omega
        · exact h
      have h3 := rSq2 f1 f2 r1 r2 h2
      unfold rSp at e
      split at e <;> omega
    · omega
  · rcases hc with ⟨hc, e⟩ | ⟨hc, e⟩
    · refine ⟨hs, hb0, ?_, ?_, Or.inl e⟩
      · exact hc.2.1 _ (by rw [if_pos rfl]; omega) (by rw [if_pos rfl]; omega)
      · exact hc.2.1 _ (by rw [if_pos rfl]; unfold rOv; omega) (by rw [if_pos rfl]; unfold rOv; omega)
    · refine ⟨hs, hb0, ?_, ?_, Or.inr e⟩
      · exact hc.2.1 _ (by rw [if_neg (by decide)]; omega) (by rw [if_neg (by decide)]; omega)
      · exact hc.2.1 _ (by rw [if_neg (by decide)]; unfold rOv; omega) (by rw [if_neg (by decide)]; unfold rOv; omega)
/-- where a man is taken beside its goal, a pawn stands there, and the goal is empty -/
theorem rLm_ep {q : rQ} {m : Int} (hd : rGd q) (hl : rLm q m) (hw : ¬ rWh q m = rTo m) : q.1 (rFr m) = 8 * q.2.1 + 1 ∧ q.1 (rTo m) = 0 ∧ q.1 (rWh q m) = 8 * (1 - q.2.1) + 1 ∧ rBc m = 0 ∧ ¬ rWh q m = rFr m := by
  obtain ⟨d0, d1, hv, -, hp, -⟩ := hd
  obtain ⟨-, -, ⟨o1, o2⟩, -, hg, hb⟩ := hl
  have hf := rFr_r (m := m)
  have ht := rTo_r (m := m)
  unfold rWh at hw ⊢
  split at hw
  next c =>
    obtain ⟨c1, c2⟩ := c
    rw [if_pos ⟨c1, c2⟩]
    rcases hp with hp | ⟨p0, p1, p2, p3⟩
    · omega
    rw [← c2] at p0 p1 p2 p3
    have hrk : (q.2.1 = 0 ∧ rFr m / 8 = 4) ∨ (q.2.1 = 1 ∧ rFr m / 8 = 3) := by
      rcases hg with ⟨-, hg⟩ | ⟨hg, -⟩
      · rcases hg with ⟨g1, g2, g3⟩ | ⟨f, g1, g2, g3, -⟩
        · unfold rUpw at g1 g2 g3
          rcases g3 with g3 | ⟨g3, g4, -⟩
          · unfold rSp at g3
            split at g3 <;> omega
          · unfold rSp at g4
            split at g4
            · split at g4 <;> omega
            · split at g4 <;> omega
        · unfold rSp rUpw at g3
          split at g3 <;> omega
      · exact absurd c1 hg
    have hwv : q.1 (8 * (rFr m / 8) + rTo m % 8) = 8 * (1 - q.2.1) + 1 := by
      rcases p3 with ⟨p3, p4, p5⟩ | ⟨p3, p4, p5⟩
      · rw [show 8 * (rFr m / 8) + rTo m % 8 = rTo m - 8 by omega, p5]; omega
      · rw [show 8 * (rFr m / 8) + rTo m % 8 = rTo m + 8 by omega, p5]; omega
    refine ⟨by omega, p2, hwv, ?_, ?_⟩
    · rcases hb with ⟨-, h, -⟩ | ⟨-, h⟩
      · omega
      · exact h
    · intro e
      rw [e] at hwv
      omega
  next c => exact absurd rfl hw
/-- takeBack brings the men back -/
theorem rTb {q : rQ} {m : Int} (hd : rGd q) (hl : rLm q m) : rT3 q m = q.1 := by
  have hcas : rIsC q m → rT0c q m = rM3 q m := fun hc => by
    obtain ⟨h1, h2, h3, h4, h5⟩ := rLm_ca ⟨hd.1, hd.2.1⟩ hl hc
    have d0 := hd.1
    have d1 := hd.2.1
    have e1 : ¬ rCo (rFr m) (rTo m) = rOv (rFr m) (rTo m) := by unfold rCo rOv; split <;> omega
    have e2 : rM3 q m (rOv (rFr m) (rTo m)) = 0 := by
      have hw : rWh q m = rTo m := by
        unfold rWh
        rw [if_neg (fun h => by have := hc.1; omega)]
      unfold rM3 rM2 rM1
      rw [rUp_n (by unfold rOv; omega), rUp_n (by unfold rOv; omega), rUp_n (by rw [hw]; unfold rOv; omega)]
      exact h4
    funext i
    unfold rT0c
    by_cases c1 : i = rOv (rFr m) (rTo m)
    · rw [c1, rUp_s, e2]
    · rw [rUp_n c1]
      by_cases c2 : i = rCo (rFr m) (rTo m)
      · rw [c2, rUp_s]
        unfold rM4c
        rw [rUp_n (fun h => e1 h.symm), rUp_s]
      · rw [rUp_n c2]
        unfold rM4c
        rw [rUp_n c2, rUp_n c1]
  have h0 : rT0 q m = rM3 q m := by
    funext i
    unfold rT0
    by_cases hc : rIsC q m
    · rw [if_pos hc, hcas hc]
    · rw [if_neg hc]
      unfold rM4
      rw [if_neg hc]
  funext i
  unfold rT3 rT2 rT1
  by_cases c1 : i = rFr m
  · rw [c1, rUp_s]
  · rw [rUp_n c1]
    by_cases c2 : i = rWh q m
    · rw [c2, rUp_s]
    · rw [rUp_n c2]
      by_cases c3 : i = rTo m
      · rw [c3, rUp_s]
        rw [c3] at c2
        exact (rLm_ep hd hl (fun h => c2 h.symm)).2.1.symm
      · rw [rUp_n c3, h0]
        unfold rM3 rM2 rM1
        rw [rUp_n c3, rUp_n c1, rUp_n c2]
theorem rM4_c {q : rQ} {m : Int} (hc : rIsC q m) : rM4 q m = rM4c q m := by
  funext i
  unfold rM4
  rw [if_pos hc]
theorem rM4_n {q : rQ} {m : Int} (hc : ¬ rIsC q m) : rM4 q m = rM3 q m := by
  funext i
  unfold rM4
  rw [if_neg hc]
theorem rVal_up {M : Int → Int} {s v : Int} (h : rVal M) (hv : v = 0 ∨ (0 ≤ s ∧ s ≤ 63 ∧ ((1 ≤ v ∧ v ≤ 6) ∨ (9 ≤ v ∧ v ≤ 14)))) : rVal (rUp M s v) := by
  intro i
  by_cases c : i = s
  · rw [c, rUp_s]; exact hv
  · rw [rUp_n c]; exact h i
theorem rVal_3 {q : rQ} {m : Int} (hd : rGd q) (hl : rLm q m) : rVal (rM3 q m) := by
  obtain ⟨d0, d1, hv, -⟩ := hd
  have ht := rTo_r (m := m)
  unfold rM3 rM2 rM1
  refine rVal_up (rVal_up (rVal_up hv (Or.inl rfl)) (Or.inl rfl)) ?_
  split
  next c =>
    refine Or.inr ⟨ht.1, ht.2, ?_⟩
    rcases hl.2.2.2.2.2 with ⟨-, -, h1, h2⟩ | ⟨-, h⟩
    · omega
    · omega
  next c =>
    rcases hv (rFr m) with h | ⟨-, -, h⟩
    · exact Or.inl h
    · exact Or.inr ⟨ht.1, ht.2, h⟩
theorem rVal_4 {q : rQ} {m : Int} (hd : rGd q) (hl : rLm q m) : rVal (rM4 q m) := by
  have h3 := rVal_3 hd hl
  by_cases hc : rIsC q m
  · rw [rM4_c hc]
    obtain ⟨h1, h2, -, -, h5⟩ := rLm_ca ⟨hd.1, hd.2.1⟩ hl hc
    have d0 := hd.1
    have d1 := hd.2.1
    unfold rM4c
    refine rVal_up (rVal_up h3 ?_) (Or.inl rfl)
    rcases h3 (rCo (rFr m) (rTo m)) with h | ⟨-, -, h⟩
    · exact Or.inl h
    · exact Or.inr ⟨by unfold rOv; omega, by unfold rOv; omega, h⟩
  · rw [rM4_n hc]; exact h3
theorem rLm_fr {q : rQ} {m : Int} (hd : rGd q) (hl : rLm q m) : q.1 (rTo m) = 0 ∨ (q.1 (rTo m) / 8 = 1 - q.2.1 ∧ ¬ q.1 (rTo m) = 8 * (1 - q.2.1) + 6) := by
  obtain ⟨d0, d1, hv, -, hp, ha⟩ := hd
  obtain ⟨-, -, ho, hn, hg, -⟩ := hl
  have hf := rFr_r (m := m)
  have ht := rTo_r (m := m)
  by_cases c : q.1 (rTo m) = 0
  · exact Or.inl c
  · refine Or.inr ⟨?_, fun e => ?_⟩
    · have hn2 : ¬ q.1 (rTo m) / 8 = q.2.1 := fun e => hn ⟨c, e⟩
      rcases hv (rTo m) with h | ⟨-, -, h⟩
      · exact absurd h c
      · omega
    · have hne : ¬ rTo m = q.2.2.2 := by
        intro e2
        rcases hp with hp | ⟨-, -, hp, -⟩
        · omega
        · rw [← e2] at hp; exact c hp
      exact ha (rTo m) e (rGO_at hg ho ⟨d0, d1⟩ hv hf.1 hf.2 ht.1 ht.2 c hne)
theorem rM3_at {q : rQ} {m t : Int} : (t = rTo m ∧ rM3 q m t = (if 0 < rBc m then rBc m + 8 * q.2.1 else q.1 (rFr m))) ∨ (¬ t = rTo m ∧ (t = rFr m ∨ t = rWh q m) ∧ rM3 q m t = 0) ∨ (¬ t = rTo m ∧ ¬ t = rFr m ∧ ¬ t = rWh q m ∧ rM3 q m t = q.1 t) := by
  unfold rM3 rM2 rM1
  by_cases c1 : t = rTo m
  · refine Or.inl ⟨c1, ?_⟩
    rw [c1, rUp_s]
  · refine Or.inr ?_
    rw [rUp_n c1]
    by_cases c2 : t = rFr m
    · refine Or.inl ⟨c1, Or.inl c2, ?_⟩
      rw [c2, rUp_s]
    · rw [rUp_n c2]
      by_cases c3 : t = rWh q m
      · refine Or.inl ⟨c1, Or.inr c3, ?_⟩
        rw [c3, rUp_s]
      · refine Or.inr ⟨c1, c2, c3, ?_⟩
        rw [rUp_n c3]
theorem rKs_3 {q : rQ} {m : Int} (hd : rGd q) (hl : rLm q m) : rKs (rM3 q m) := by
  intro b hb0 hb1
  obtain ⟨s0, s1, s2, s3, s4⟩ := hd.2.2.2.1 b hb0 hb1
  have d0 := hd.1
  have d1 := hd.2.1
  have ho := hl.2.2.1
  obtain ⟨o1, o2⟩ := ho
  have hbc : 0 < rBc m → 2 ≤ rBc m ∧ rBc m ≤ 5 ∧ q.1 (rFr m) % 8 = 1 := fun h => by
    rcases hl.2.2.2.2.2 with ⟨h1, -, h2, h3⟩ | ⟨-, h4⟩
    · exact ⟨h2, h3, h1⟩
    · omega
  by_cases c : q.1 (rFr m) = 8 * b + 6
  · have e0 : rFr m = s0 := s4 _ c
    refine ⟨rTo m, rTo_r.1, rTo_r.2, ?_, fun t ht => ?_⟩
    · rcases rM3_at (q := q) (m := m) (t := rTo m) with ⟨-, h⟩ | ⟨h, -⟩ | ⟨h, -⟩
      · rw [h, if_neg (fun h2 => by have := hbc h2; omega)]
        exact c
      · exact absurd rfl h
      · exact absurd rfl h
    · rcases rM3_at (q := q) (m := m) (t := t) with ⟨h, -⟩ | ⟨-, -, h⟩ | ⟨-, h2, -, h⟩
      · exact h
      · omega
      · rw [h] at ht
        exact absurd ((s4 t ht).trans e0.symm) h2
  · have n1 : ¬ s0 = rFr m := fun e => c (by rw [← e]; exact s3)
    have n2 : ¬ s0 = rTo m := fun e => by
      rw [e] at s3
      rcases rLm_fr hd hl with h | ⟨h, h2⟩
      · omega
      · have hb : b = 1 - q.2.1 := by omega
        rw [hb] at s3
        exact h2 s3
    have n3 : ¬ s0 = rWh q m := fun e => by
      by_cases cw : rWh q m = rTo m
      · exact n2 (by rw [e, cw])
      · have := (rLm_ep hd hl cw).2.2.1
        rw [← e, s3] at this
        omega
    refine ⟨s0, s1, s2, ?_, fun t ht => ?_⟩
    · rcases rM3_at (q := q) (m := m) (t := s0) with ⟨h, -⟩ | ⟨-, h, -⟩ | ⟨-, -, -, h⟩
      · exact absurd h n2
      · rcases h with h | h
        · exact absurd h n1
        · exact absurd h n3
      · rw [h]; exact s3
    · rcases rM3_at (q := q) (m := m) (t := t) with ⟨-, h⟩ | ⟨-, -, h⟩ | ⟨-, -, -, h⟩
      · rw [h] at ht
        split at ht
        next h2 => have := hbc h2; omega
        next => exact absurd ht c
      · omega
      · rw [h] at ht
        exact s4 t ht
theorem rKs_4 {q : rQ} {m : Int} (hd : rGd q) (hl : rLm q m) : rKs (rM4 q m) := by
  have h3 := rKs_3 hd hl
  by_cases hc : rIsC q m
  · rw [rM4_c hc]
    obtain ⟨h1, h2, h6, h4, h5⟩ := rLm_ca ⟨hd.1, hd.2.1⟩ hl hc
    have d0 := hd.1
    have d1 := hd.2.1
    have hw : rWh q m = rTo m := by
      unfold rWh
      rw [if_neg (fun h => by have := hc.1; omega)]
    have e1 : ¬ rCo (rFr m) (rTo m) = rOv (rFr m) (rTo m) := by unfold rCo rOv; split <;> omega
    have e2 : rM3 q m (rOv (rFr m) (rTo m)) = 0 := by
      unfold rM3 rM2 rM1
      rw [rUp_n (by unfold rOv; omega), rUp_n (by unfold rOv; omega), rUp_n (by rw [hw]; unfold rOv; omega)]
      exact h4
    intro b hb0 hb1
    obtain ⟨s0, s1, s2, s3, s4⟩ := h3 b hb0 hb1
    by_cases c : s0 = rCo (rFr m) (rTo m)
    · refine ⟨rOv (rFr m) (rTo m), by unfold rOv; omega, by unfold rOv; omega, ?_, fun t ht => ?_⟩
      · unfold rM4c
        rw [rUp_n (fun h => e1 h.symm), rUp_s, ← c]
        exact s3
      · unfold rM4c at ht
        by_cases c1 : t = rCo (rFr m) (rTo m)
        · rw [c1, rUp_s] at ht; omega
        · rw [rUp_n c1] at ht
          by_cases c2 : t = rOv (rFr m) (rTo m)
          · exact c2
          · rw [rUp_n c2] at ht
            exact absurd ((s4 t ht).trans c) c1
    · have n1 : ¬ s0 = rOv (rFr m) (rTo m) := fun e => by rw [e, e2] at s3; omega
      refine ⟨s0, s1, s2, ?_, fun t ht => ?_⟩
      · unfold rM4c
        rw [rUp_n c, rUp_n n1]
        exact s3
      · unfold rM4c at ht
        by_cases c1 : t = rCo (rFr m) (rTo m)
        · rw [c1, rUp_s] at ht; omega
        · rw [rUp_n c1] at ht
          by_cases c2 : t = rOv (rFr m) (rTo m)
          · rw [c2, rUp_s] at ht
            exact absurd (s4 _ ht).symm c
          · rw [rUp_n c2] at ht
            exact s4 t ht
  · rw [rM4_n hc]; exact h3
/-- a pawn's step of two squares -/
theorem rLm_two {q : rQ} {m : Int} (d0 : 0 ≤ q.2.1) (d1 : q.2.1 ≤ 1) (hl : rLm q m) (ht : rTwo q m) : ((q.2.1 = 0 ∧ rFr m / 8 = 1 ∧ rTo m = rFr m + 16 ∧ q.1 (rFr m + 8) = 0) ∨ (q.2.1 = 1 ∧ rFr m / 8 = 6 ∧ rTo m = rFr m - 16 ∧ q.1 (rFr m - 8) = 0)) ∧ q.1 (rFr m) = 8 * q.2.1 + 1 ∧ rBc m = 0 := by
  obtain ⟨-, -, ⟨o1, o2⟩, -, hg, hb⟩ := hl
  obtain ⟨hk, ht⟩ := ht
  have hf := rFr_r (m := m)
  have htr := rTo_r (m := m)
  have key : (q.2.1 = 0 ∧ rFr m / 8 = 1 ∧ rTo m = rFr m + 16 ∧ q.1 (rFr m + 8) = 0) ∨ (q.2.1 = 1 ∧ rFr m / 8 = 6 ∧ rTo m = rFr m - 16 ∧ q.1 (rFr m - 8) = 0) := by
    rcases hg with ⟨-, hg⟩ | ⟨hg, -⟩
    · rcases hg with ⟨g1, g2, g3⟩ | ⟨f, g1, -, g3, -⟩
      · unfold rUpw at g1 g2 g3
        have e : rSp (rFr m) 0 (1 - 2 * q.2.1) = rFr m + 8 * (1 - 2 * q.2.1) := by
          unfold rSp at g1 ⊢
          split at g1
          next c => rw [if_pos c]; omega
          next => omega
        rw [e] at g1 g2 g3
        rcases g3 with g3 | ⟨g3, g4, -⟩
        · omega
        · have hs : q.2.1 = 0 ∨ q.2.1 = 1 := by omega
          rcases hs with hs | hs
          · rw [hs] at g2 g3 g4
            refine Or.inl ⟨hs, by omega, ?_, ?_⟩
            · unfold rSp at g4
              split at g4 <;> omega
            · rw [show rFr m + 8 * (1 - 2 * 0) = rFr m + 8 by omega] at g2; exact g2
          · rw [hs] at g2 g3 g4
            refine Or.inr ⟨hs, by omega, ?_, ?_⟩
            · unfold rSp at g4
              split at g4 <;> omega
            · rw [show rFr m + 8 * (1 - 2 * 1) = rFr m - 8 by omega] at g2; exact g2
      · exfalso
        unfold rSp rUpw at g3
        split at g3 <;> omega
    · exact absurd hk hg
  refine ⟨key, by omega, ?_⟩
  rcases hb with ⟨-, h, -⟩ | ⟨-, h⟩
  · omega
  · exact h
theorem rPs_4 {q : rQ} {m : Int} (hd : rGd q) (hl : rLm q m) : rPs (rMk q m) := by
  show rNp q m = -1 ∨ (0 ≤ rNp q m ∧ rNp q m ≤ 63 ∧ rM4 q m (rNp q m) = 0 ∧ ((1 - q.2.1 = 0 ∧ rNp q m / 8 = 5 ∧ rM4 q m (rNp q m - 8) = 9) ∨ (1 - q.2.1 = 1 ∧ rNp q m / 8 = 2 ∧ rM4 q m (rNp q m + 8) = 1)))
  by_cases hp : rPa q m
  · have e : rNp q m = (rFr m + rTo m) / 2 := by
      unfold rNp
      rw [if_pos hp]
    obtain ⟨hk, hm, hb⟩ := rLm_two hd.1 hd.2.1 hl hp.1
    have hf := rFr_r (m := m)
    have ht := rTo_r (m := m)
    have hc : ¬ rIsC q m := fun h => by have h1 := h.1; have h2 := hp.1.1; omega
    rw [rM4_n hc, e]
    have h1 : rM3 q m ((rFr m + rTo m) / 2) = q.1 ((rFr m + rTo m) / 2) := by
      rcases rM3_at (q := q) (m := m) (t := (rFr m + rTo m) / 2) with ⟨h, -⟩ | ⟨-, h, -⟩ | ⟨-, -, -, h⟩
      · omega
      · rcases h with h | h
        · omega
        · unfold rWh at h
          split at h <;> omega
      · exact h
    have h2 : rM3 q m (rTo m) = 8 * q.2.1 + 1 := by
      rcases rM3_at (q := q) (m := m) (t := rTo m) with ⟨-, h⟩ | ⟨h, -⟩ | ⟨h, -⟩
      · rw [h, if_neg (by omega)]; exact hm
      · exact absurd rfl h
      · exact absurd rfl h
    refine Or.inr ⟨by omega, by omega, ?_, ?_⟩
    · rw [h1]
      rcases hk with ⟨-, -, k3, k4⟩ | ⟨-, -, k3, k4⟩
      · rw [show (rFr m + rTo m) / 2 = rFr m + 8 by omega]; exact k4
      · rw [show (rFr m + rTo m) / 2 = rFr m - 8 by omega]; exact k4
    · rcases hk with ⟨k1, k2, k3, k4⟩ | ⟨k1, k2, k3, k4⟩
      · refine Or.inr ⟨by omega, by omega, ?_⟩
        rw [show (rFr m + rTo m) / 2 + 8 = rTo m by omega, h2]
        omega
      · refine Or.inl ⟨by omega, by omega, ?_⟩
        rw [show (rFr m + rTo m) / 2 - 8 = rTo m by omega, h2]
        omega
  · refine Or.inl ?_
    unfold rNp
    rw [if_neg hp]
/-- a move may be made: what is left to look at is the mover's king -/
theorem rMk_gd {q : rQ} {m : Int} (hd : rGd q) (hl : rLm q m) : rGd (rMk q m) ↔ ∀ s, rM4 q m s = 8 * q.2.1 + 6 → ¬ rAk (rM4 q m) s (1 - q.2.1) := by
  have d0 := hd.1
  have d1 := hd.2.1
  constructor
  · intro h s hs
    exact h.2.2.2.2.2 s (show rM4 q m s = 8 * (1 - (1 - q.2.1)) + 6 by omega)
  · intro h
    refine ⟨show 0 ≤ 1 - q.2.1 by omega, show 1 - q.2.1 ≤ 1 by omega, rVal_4 hd hl, rKs_4 hd hl, rPs_4 hd hl, fun s hs => ?_⟩
    have hs : rM4 q m s = 8 * (1 - (1 - q.2.1)) + 6 := hs
    exact h s (by omega)
