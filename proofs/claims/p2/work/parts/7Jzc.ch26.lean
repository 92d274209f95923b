/-! the reference's end, size, out, as the law sees them -/
theorem kN_pos {K : Nat → Nat} {k a : Nat} (hk : K a = k) : ∀ (n : Nat), a < n → 1 ≤ kN K k n
  | 0, h => by omega
  | n + 1, h => by
    show 1 ≤ kN K k n + (if K n = k then 1 else 0)
    by_cases e : a = n
    · subst e
      rw [if_pos hk]
      omega
    · have := kN_pos hk n (by omega)
      omega
theorem zNo_0 {K : Nat → Nat} {n : Nat} (h : zNo K n) : rN1 K n = 0 := by
  unfold rN1
  rw [kN_0 n h]
  rfl
theorem zNo_1 {K : Nat → Nat} {n : Nat} (h : ¬ zNo K n) : rN1 K n = 1 := by
  have h1 : 1 ≤ kN K 109 n := by
    by_cases h9 : 1 ≤ kN K 109 n
    · exact h9
    · exact absurd (fun a ha hk => h9 (kN_pos hk n ha)) h
  unfold rN1
  omega
noncomputable def eRC (K : Nat → Nat) (n : Nat) : Room := { frames := 406, cells := 5 * (1 - rN1 K n), slots := 327770 * (1 - rN1 K n), locals := 12141 }
section LRE
variable {l : Launch} {E : jE} {K : Nat → Nat} {n : Nat} {σ : Nat → jcell} {fd tp : Int32}
set_option maxRecDepth 100000 in
set_option maxHeartbeats 4000000 in
theorem lr_end {q : Int32} (h : LJ K n σ fd tp) : jMet l E jcl jtb lw_tbl y_MM_end (eRC K n) [.inr (.inr (some (.inl 87))), .inl q] σ n (fun r σ' n' => (∃ v, r = some (.inl v)) ∧ ∃ (K' : Nat → Nat) (tp' : Int32), LJ K' n' σ' fd tp' ∧ tC K' n' = tC K n ∧ (n' = n → rN1 K' n' = rN1 K n) ∧ (¬ n' = n → rN1 K n = 0 ∧ rN1 K' n' = 1) ∧ ((tp'.toInt = tp.toInt ∧ (q.toInt < 0 ∨ tp.toInt < q.toInt)) ∨ (tp'.toInt = 0 ∧ 0 ≤ q.toInt ∧ q.toInt ≤ tp.toInt))) := by
  have hh := h
  obtain ⟨j1, j2, j3, j4, j5, -, -, fr, j9, ja⟩ := hh
  obtain ⟨mt, mb, li, th0, tp9, ev, t1, t2, t3, b1, b2, b3, l1, l2, l3, q0, q1, q2, e1, e2⟩ := mm_f j1.1 j3.1 j3.2.1 j9
  rw [ja] at q1
  cases q1
  obtain ⟨-, -, ⟨mt2, fs2, y1, y2, y3, y4, y5⟩, y6⟩ := j3
  rw [j9] at y1
  obtain rfl := (Prod.mk.inj (Sum.inr.inj y1)).2
  rw [t1] at y2
  cases y2
  have j3 := h.2.2.1
  refine jMet_post (zg_MMendG (l := l) (E := E) K n zP0 σ [rR 87, .inl q, rR mt, rR mb, rR li, .inl tp, ev] j1.1 trivial ⟨rfl, fun i e v he hv => by
    match i, he, hv with
    | 0, he, hv => cases he; cases hv; exact ⟨⟨j3.1, Or.inl j3.2.1⟩, trivial⟩
    | 1, he, hv => cases he; cases hv; exact ⟨aIn_32 _, trivial⟩
    | 2, he, hv => cases he; cases hv; exact ⟨⟨t2, Or.inl t3⟩, trivial⟩
    | 3, he, hv => cases he; cases hv; exact ⟨⟨b2, Or.inl b3⟩, trivial⟩
    | 4, he, hv => cases he; cases hv; exact ⟨⟨l2, Or.inl l3⟩, trivial⟩
    | 5, he, hv => cases he; cases hv; exact ⟨q2, trivial⟩
    | 6, he, hv => cases he; cases hv; exact ⟨e2, trivial⟩
    | i + 7, he, _ => cases he⟩ ⟨aAllc ⟨87, 11, fr, _, rfl, j9, t1, rfl⟩ (aAllc ⟨87, 11, fr, _, rfl, j9, b1, rfl⟩ (aAllc ⟨87, 11, fr, _, rfl, j9, l1, rfl⟩ (aAllc ⟨87, 11, fr, _, rfl, j9, ja, rfl⟩ (aAllc ⟨87, 11, fr, _, rfl, j9, e1, rfl⟩ (fun q hq => by cases hq))))), fun q hq => (by cases hq), fun q hq => (by cases hq), aAllc ⟨_, rfl, (rF_b (r := 5873) (by decide) rfl).mpr y5⟩ (aAllc ⟨_, rfl, (rF_b (r := 6385) (by decide) rfl).mpr y6⟩ (fun q hq => by cases hq))⟩ (eRC K n) rfl rfl (fun hz => by
      show 5 * (1 - rN1 K n) = 5 ∧ 327770 * (1 - rN1 K n) = 327770
      rw [zNo_0 hz]
      exact ⟨rfl, rfl⟩) (fun hz => by
      show 5 * (1 - rN1 K n) = 0 ∧ 327770 * (1 - rN1 K n) = 0
      rw [zNo_1 hz]
      exact ⟨rfl, rfl⟩)) ?_
  rintro r σ' n' ⟨p3, p4, p5, K', w1, w2, w3, p1, -, xs, p6, p7, A, hA, hAf⟩
  have hki : zKi n K' n' := fun a g1 g2 => by
    by_cases e : n' = n
    · omega
    · exact (w3 e).2.2 a g1 g2
  cases r with
  | none => cases p5
  | some v =>
    obtain ⟨x, rfl, -⟩ := aG_int (p6.2 7 _ v rfl rfl).1
    obtain ⟨fr', k1, k2, k3⟩ := p3 87 j3.1 11 fr j9
    have k5 : fr'[5]? = some (rR mt) := k3 5 _ t1 (fun hq => absurd (List.all_eq_true.mp (show ag_MMendG.2.2.2.2.2.1.1.all (fun q => !(Nat.beq q.1 55 && Nat.beq q.2 5)) = true by decide +kernel) _ hq) (by rw [j3.2.1]; decide))
    obtain ⟨a1, c1, fs2, x8, z1, z2, z3, z4⟩ := p7.1 (0, 1, 8) (List.mem_of_getElem? (i := 0) rfl)
    cases z1
    rw [k1] at z2
    obtain ⟨rfl, rfl⟩ := Prod.mk.inj (Sum.inr.inj z2)
    obtain ⟨tp', rfl, -⟩ := aG_int (p6.2 8 _ x8 rfl z4).1
    obtain ⟨vs, v1, v2⟩ := p7.2.2.2 (5873, [2]) (List.mem_of_getElem? (i := 0) rfl)
    obtain rfl : [rR mt] = vs := Option.some.inj v1
    obtain ⟨vs, v3, v4⟩ := p7.2.2.2 (6385, [0]) (List.mem_of_getElem? (i := 1) rfl)
    obtain rfl : [rR 87] = vs := Option.some.inj v3
    have hr : rJ K' n' σ' 87 := ⟨Nat.lt_of_lt_of_le j3.1 w1.1, (w1.2 87 j3.1).trans j3.2.1, ⟨mt, fr', k1, k5, Nat.lt_of_lt_of_le t2 w1.1, (w1.2 mt t2).trans t3, (rF_b (r := 5873) (by decide) rfl).mp v2⟩, (rF_b (r := 6385) (by decide) rfl).mp v4⟩
    obtain ⟨g1, g2⟩ := LJ_rg h w1 hki p1 p3 p4 (by decide +kernel) (by decide +kernel) hr k1 z3
    refine ⟨⟨x, rfl⟩, K', tp', g1, g2, fun e => by subst e; rw [w2 rfl], fun e => ⟨zNo_0 (w3 e).1, zNo_1 (w3 e).2.1⟩, ?_⟩
    have g5 : ([rR 87, .inl q, rR mt, rR mb, rR li, .inl tp, ev] ++ ((some (.inl x) : Option jv).toList ++ xs) : List jv)[5]? = some (.inl tp) := rfl
    have gq : ([rR 87, .inl q, rR mt, rR mb, rR li, .inl tp, ev] ++ ((some (.inl x) : Option jv).toList ++ xs) : List jv)[1]? = some (.inl q) := rfl
    have ev9 : ∀ (F : aF) (z : Int), aEv ([rR 87, .inl q, rR mt, rR mb, rR li, .inl tp, ev] ++ ((some (.inl x) : Option jv).toList ++ xs)) F.1 = some z → aHd ([rR 87, .inl q, rR mt, rR mb, rR li, .inl tp, ev] ++ ((some (.inl x) : Option jv).toList ++ xs)) F → 0 ≤ z + F.2 := fun F z h1 ⟨y, h2, h3⟩ => by
      rw [h1] at h2
      cases h2
      exact h3
    rcases List.mem_cons.mp hA with rfl | hA
    · have a1 := ev9 ([(8, 1), (5, -1)], 0) _ (by simp only [aEv, z4, g5, aI]; rfl) (hAf _ (List.mem_of_getElem? (i := 0) rfl))
      have a2 := ev9 ([(8, -1), (5, 1)], 0) _ (by simp only [aEv, z4, g5, aI]; rfl) (hAf _ (List.mem_of_getElem? (i := 1) rfl))
      have a3 := ev9 ([(1, -1)], -1) _ (by simp only [aEv, gq, aI]; rfl) (hAf _ (List.mem_of_getElem? (i := 2) rfl))
      omega
    · rcases List.mem_cons.mp hA with rfl | hA
      · have a1 := ev9 ([(8, 1), (5, -1)], 0) _ (by simp only [aEv, z4, g5, aI]; rfl) (hAf _ (List.mem_of_getElem? (i := 0) rfl))
        have a2 := ev9 ([(8, -1), (5, 1)], 0) _ (by simp only [aEv, z4, g5, aI]; rfl) (hAf _ (List.mem_of_getElem? (i := 1) rfl))
        have a3 := ev9 ([(1, 1), (5, -1)], -1) _ (by simp only [aEv, gq, g5, aI]; rfl) (hAf _ (List.mem_of_getElem? (i := 2) rfl))
        omega
      · rcases List.mem_cons.mp hA with rfl | hA
        · have a1 := ev9 ([(8, 1)], 0) _ (by simp only [aEv, z4, aI]; rfl) (hAf _ (List.mem_of_getElem? (i := 0) rfl))
          have a2 := ev9 ([(8, -1)], 0) _ (by simp only [aEv, z4, aI]; rfl) (hAf _ (List.mem_of_getElem? (i := 1) rfl))
          have a3 := ev9 ([(1, 1)], 0) _ (by simp only [aEv, gq, aI]; rfl) (hAf _ (List.mem_of_getElem? (i := 2) rfl))
          have a4 := ev9 ([(5, 1), (1, -1)], 0) _ (by simp only [aEv, gq, g5, aI]; rfl) (hAf _ (List.mem_of_getElem? (i := 3) rfl))
          omega
        · cases hA
theorem lr_size (h : LJ K n σ fd tp) : jMet l E jcl jtb lw_tbl y_MM_size { frames := 0, cells := 0, slots := 0, locals := 0 } [.inr (.inr (some (.inl 87)))] σ n (fun r σ' n' => (∃ v, r = some (.inl v)) ∧ n' = n ∧ LJ K n σ' fd tp) := by
  have hh := h
  obtain ⟨j1, j2, j3, j4, j5, -, -, fr, j9, ja⟩ := hh
  refine jMet_post (zz_MMsizeX (l := l) (E := E) K n zP0 σ [.inr (.inr (some (.inl 87)))] j1.1 trivial ⟨rfl, fun i e v he hv => by
    match i, he, hv with
    | 0, he, hv => cases he; cases hv; exact ⟨⟨j3.1, Or.inl j3.2.1⟩, trivial⟩
    | i + 1, he, _ => cases he⟩ ⟨fun q hq => (by cases hq), fun q hq => (by cases hq), fun q hq => (by cases hq), fun q hq => (by cases hq)⟩) ?_
  rintro r σ' n' ⟨rfl, p1, -, p3, p4, p5, xs, p6, -⟩
  obtain ⟨fr', k1, k2, k3⟩ := p3 87 j3.1 11 fr j9
  have k4 : fr'[1]? = some (.inl tp) := k3 1 _ ja (fun hq => absurd (List.all_eq_true.mp (show ag_MMsizeX.2.2.2.2.2.1.1.all (fun q => !(Nat.beq q.1 55 && Nat.beq q.2 1)) = true by decide +kernel) _ hq) (by rw [j3.2.1]; decide))
  cases r with
  | none => cases p5
  | some v =>
    obtain ⟨x, rfl, -⟩ := aG_int (p6.2 1 _ v rfl rfl).1
    exact ⟨⟨x, rfl⟩, rfl, LJ_rs h p1 p3 p4 (by decide +kernel) (by decide +kernel) k1 k4⟩
theorem lr_out {q : Int32} (h : LJ K n σ fd tp) : jMet l E jcl jtb lw_tbl y_MM_out { frames := 0, cells := 0, slots := 0, locals := 0 } [.inr (.inr (some (.inl 87))), .inl q] σ n (fun r σ' n' => (∃ v, r = some (.inl v)) ∧ n' = n ∧ LJ K n σ' fd tp) := by
  have hh := h
  obtain ⟨j1, j2, j3, j4, j5, -, -, fr, j9, ja⟩ := hh
  refine jMet_post (zz_MMoutX (l := l) (E := E) K n zP0 σ [.inr (.inr (some (.inl 87))), .inl q] j1.1 trivial ⟨rfl, fun i e v he hv => by
    match i, he, hv with
    | 0, he, hv => cases he; cases hv; exact ⟨⟨j3.1, Or.inl j3.2.1⟩, trivial⟩
    | 1, he, hv => cases he; cases hv; exact ⟨aIn_32 _, trivial⟩
    | i + 2, he, _ => cases he⟩ ⟨fun q hq => (by cases hq), fun q hq => (by cases hq), fun q hq => (by cases hq), fun q hq => (by cases hq)⟩) ?_
  rintro r σ' n' ⟨rfl, p1, -, p3, p4, p5, xs, p6, -⟩
  obtain ⟨fr', k1, k2, k3⟩ := p3 87 j3.1 11 fr j9
  have k4 : fr'[1]? = some (.inl tp) := k3 1 _ ja (fun hq => absurd (List.all_eq_true.mp (show ag_MMoutX.2.2.2.2.2.1.1.all (fun q => !(Nat.beq q.1 55 && Nat.beq q.2 1)) = true by decide +kernel) _ hq) (by rw [j3.2.1]; decide))
  cases r with
  | none => cases p5
  | some v =>
    obtain ⟨x, rfl, -⟩ := aG_int (p6.2 2 _ v rfl rfl).1
    exact ⟨⟨x, rfl⟩, rfl, LJ_rs h p1 p3 p4 (by decide +kernel) (by decide +kernel) k1 k4⟩
end LRE
