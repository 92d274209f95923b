section
/-! the reference: the third table of facts -/
noncomputable def rC_lii (f : Int64 → Int → Int → Prop) : List jv → Prop
  | [.inr (.inl a0), .inl a1, .inl a2] => f a0 a1.toInt a2.toInt
  | _ => False
noncomputable def rC_riiiiii (f : Nat → Int → Int → Int → Int → Int → Int → Prop) : List jv → Prop
  | [.inr (.inr (some (.inl a0))), .inl a1, .inl a2, .inl a3, .inl a4, .inl a5, .inl a6] => f a0 a1.toInt a2.toInt a3.toInt a4.toInt a5.toInt a6.toInt
  | _ => False
theorem rC_riiiiii_e {f : Nat → Int → Int → Int → Int → Int → Int → Prop} {l : List jv} (h : rC_riiiiii f l) : ∃ (a0 : Nat) (a1 : Int32) (a2 : Int32) (a3 : Int32) (a4 : Int32) (a5 : Int32) (a6 : Int32), l = [rR a0, rI a1, rI a2, rI a3, rI a4, rI a5, rI a6] ∧ f a0 a1.toInt a2.toInt a3.toInt a4.toInt a5.toInt a6.toInt := by
  unfold rC_riiiiii at h
  split at h
  · exact ⟨_, _, _, _, _, _, _, rfl, h⟩
  · exact h.elim
noncomputable def rC_rri (f : Nat → Nat → Int → Prop) : List jv → Prop
  | [.inr (.inr (some (.inl a0))), .inr (.inr (some (.inl a1))), .inl a2] => f a0 a1 a2.toInt
  | _ => False
theorem rC_rri_e {f : Nat → Nat → Int → Prop} {l : List jv} (h : rC_rri f l) : ∃ (a0 : Nat) (a1 : Nat) (a2 : Int32), l = [rR a0, rR a1, rI a2] ∧ f a0 a1 a2.toInt := by
  unfold rC_rri at h
  split at h
  · exact ⟨_, _, _, rfl, h⟩
  · exact h.elim
noncomputable def rC_rrii (f : Nat → Nat → Int → Int → Prop) : List jv → Prop
  | [.inr (.inr (some (.inl a0))), .inr (.inr (some (.inl a1))), .inl a2, .inl a3] => f a0 a1 a2.toInt a3.toInt
  | _ => False
theorem rC_rrii_e {f : Nat → Nat → Int → Int → Prop} {l : List jv} (h : rC_rrii f l) : ∃ (a0 : Nat) (a1 : Nat) (a2 : Int32) (a3 : Int32), l = [rR a0, rR a1, rI a2, rI a3] ∧ f a0 a1 a2.toInt a3.toInt := by
  unfold rC_rrii at h
  split at h
  · exact ⟨_, _, _, _, rfl, h⟩
  · exact h.elim
noncomputable def rC_rriii (f : Nat → Nat → Int → Int → Int → Prop) : List jv → Prop
  | [.inr (.inr (some (.inl a0))), .inr (.inr (some (.inl a1))), .inl a2, .inl a3, .inl a4] => f a0 a1 a2.toInt a3.toInt a4.toInt
  | _ => False
theorem rC_rriii_e {f : Nat → Nat → Int → Int → Int → Prop} {l : List jv} (h : rC_rriii f l) : ∃ (a0 : Nat) (a1 : Nat) (a2 : Int32) (a3 : Int32) (a4 : Int32), l = [rR a0, rR a1, rI a2, rI a3, rI a4] ∧ f a0 a1 a2.toInt a3.toInt a4.toInt := by
  unfold rC_rriii at h
  split at h
  · exact ⟨_, _, _, _, _, rfl, h⟩
  · exact h.elim
noncomputable def rC_rriiii (f : Nat → Nat → Int → Int → Int → Int → Prop) : List jv → Prop
  | [.inr (.inr (some (.inl a0))), .inr (.inr (some (.inl a1))), .inl a2, .inl a3, .inl a4, .inl a5] => f a0 a1 a2.toInt a3.toInt a4.toInt a5.toInt
  | _ => False
theorem rC_rriiii_e {f : Nat → Nat → Int → Int → Int → Int → Prop} {l : List jv} (h : rC_rriiii f l) : ∃ (a0 : Nat) (a1 : Nat) (a2 : Int32) (a3 : Int32) (a4 : Int32) (a5 : Int32), l = [rR a0, rR a1, rI a2, rI a3, rI a4, rI a5] ∧ f a0 a1 a2.toInt a3.toInt a4.toInt a5.toInt := by
  unfold rC_rriiii at h
  split at h
  · exact ⟨_, _, _, _, _, _, rfl, h⟩
  · exact h.elim
noncomputable def rC_rrriiii (f : Nat → Nat → Nat → Int → Int → Int → Int → Prop) : List jv → Prop
  | [.inr (.inr (some (.inl a0))), .inr (.inr (some (.inl a1))), .inr (.inr (some (.inl a2))), .inl a3, .inl a4, .inl a5, .inl a6] => f a0 a1 a2 a3.toInt a4.toInt a5.toInt a6.toInt
  | _ => False
theorem rC_rrriiii_e {f : Nat → Nat → Nat → Int → Int → Int → Int → Prop} {l : List jv} (h : rC_rrriiii f l) : ∃ (a0 : Nat) (a1 : Nat) (a2 : Nat) (a3 : Int32) (a4 : Int32) (a5 : Int32) (a6 : Int32), l = [rR a0, rR a1, rR a2, rI a3, rI a4, rI a5, rI a6] ∧ f a0 a1 a2 a3.toInt a4.toInt a5.toInt a6.toInt := by
  unfold rC_rrriiii at h
  split at h
  · exact ⟨_, _, _, _, _, _, _, rfl, h⟩
  · exact h.elim
noncomputable def rb_342 (N : Int) (K : Nat → Nat) (n : Nat) (vs : List jv) (σ : Nat → jcell) : Prop := rC_iiiii (fun (a0 : Int) (a1 : Int) (a2 : Int) (a3 : Int) (a4 : Int) => -1 ≤ a2 ∧ a2 ≤ 1 ∧ -1 ≤ a3 ∧ a3 ≤ 1 ∧ 0 ≤ a4 ∧ a4 ≤ 63 ∧ ∃ j, 0 ≤ j ∧ a1 % 8 = a4 % 8 + j * a2 ∧ a1 / 8 = a4 / 8 + j * a3) vs
noncomputable def rb_343 (N : Int) (K : Nat → Nat) (n : Nat) (vs : List jv) (σ : Nat → jcell) : Prop := rC_ri (fun (a0 : Nat) (a1 : Int) => 0 ≤ a1 → ∃ g c, rRo K n σ a0 62 32 85 2048 g ∧ rOb K n σ a0 62 33 (rI c) ∧ ∃ j, 0 ≤ j ∧ j < c.toInt ∧ (g j.toNat).toInt = a1) vs
noncomputable def rb_344 (N : Int) (K : Nat → Nat) (n : Nat) (vs : List jv) (σ : Nat → jcell) : Prop := rC_ri (fun (a0 : Nat) (a1 : Int) => 0 ≤ a1 → ∃ g c, rRo K n σ a0 62 32 85 2048 g ∧ rOb K n σ a0 62 33 (rI c) ∧ ∃ j, 0 ≤ j ∧ j < c.toInt ∧ (g j.toNat).toInt = a1) vs
noncomputable def rb_345 (N : Int) (K : Nat → Nat) (n : Nat) (vs : List jv) (σ : Nat → jcell) : Prop := rC_rii (fun (a0 : Nat) (a1 : Int) (a2 : Int) => 0 ≤ 301 * a1 + a2 ∧ ∃ g, rRo K n σ a0 62 12 70 602 g ∧ (g (301 * a1 + a2).toNat).toInt = 0) vs
noncomputable def rb_346 (N : Int) (K : Nat → Nat) (n : Nat) (vs : List jv) (σ : Nat → jcell) : Prop := rC_rii (fun (a0 : Nat) (a1 : Int) (a2 : Int) => 0 ≤ 301 * a1 + a2 ∧ ∃ g, rRo K n σ a0 62 12 70 602 g ∧ (g (301 * a1 + a2).toNat).toInt ≤ 3) vs
noncomputable def rb_347 (N : Int) (K : Nat → Nat) (n : Nat) (vs : List jv) (σ : Nat → jcell) : Prop := rC_ri (fun (a0 : Nat) (a1 : Int) => 0 ≤ a1 ∧ ∃ g, rRo K n σ a0 62 12 70 602 g ∧ (g a1.toNat).toInt = 0) vs
noncomputable def rb_348 (N : Int) (K : Nat → Nat) (n : Nat) (vs : List jv) (σ : Nat → jcell) : Prop := rC_ri (fun (a0 : Nat) (a1 : Int) => ∃ g t e, rAt9 K n σ a0 g t e ∧ a1 = rLk9 g t.toInt e.toInt) vs
noncomputable def rb_349 (N : Int) (K : Nat → Nat) (n : Nat) (vs : List jv) (σ : Nat → jcell) : Prop := rC_rii (fun (a0 : Nat) (a1 : Int) (a2 : Int) => ∃ C y, rTY K n σ a0 a1 C y ∧ (0 ≤ a2 ∧ a2 ≤ C)) vs
noncomputable def rb_350 (N : Int) (K : Nat → Nat) (n : Nat) (vs : List jv) (σ : Nat → jcell) : Prop := rC_rii (fun (a0 : Nat) (a1 : Int) (a2 : Int) => 0 ≤ a1 ∧ ∃ g, rRo K n σ a0 62 18 76 2 g ∧ (g a1.toNat).toInt = a2) vs
noncomputable def rb_351 (N : Int) (K : Nat → Nat) (n : Nat) (vs : List jv) (σ : Nat → jcell) : Prop := rC_rii (fun (a0 : Nat) (a1 : Int) (a2 : Int) => 1 ≤ a2 → 0 ≤ 301 * a1 + a2 ∧ ∃ g, rRo K n σ a0 62 12 70 602 g ∧ (g (301 * a1 + a2).toNat).toInt = 0) vs
noncomputable def rb_352 (N : Int) (K : Nat → Nat) (n : Nat) (vs : List jv) (σ : Nat → jcell) : Prop := rC_rii (fun (a0 : Nat) (a1 : Int) (a2 : Int) => ∃ pa mo q0 c, rSt3 K n σ a0 a1 pa mo q0 ∧ rOb K n σ a0 62 33 (rI c) ∧ rTL K n σ a0 c.toInt (rPo3 pa mo q0 a2)) vs
noncomputable def rb_353 (N : Int) (K : Nat → Nat) (n : Nat) (vs : List jv) (σ : Nat → jcell) : Prop := rC_r (fun (a0 : Nat) => ∃ g, rRo K n σ a0 109 5 112 6 g ∧ ∀ j : Nat, 2 ≤ j → j ≤ 5 → (g j).toInt ≤ 100000000) vs
noncomputable def rb_354 (N : Int) (K : Nat → Nat) (n : Nat) (vs : List jv) (σ : Nat → jcell) : Prop := rC_ri (fun (a0 : Nat) (a1 : Int) => ∃ g t e, rAt9 K n σ a0 g t e ∧ ((0 ≤ a1 ∧ rRQ9 g t.toInt e.toInt) ∨ (a1 < 0 ∧ ¬ rRQ9 g t.toInt e.toInt))) vs
noncomputable def rb_355 (N : Int) (K : Nat → Nat) (n : Nat) (vs : List jv) (σ : Nat → jcell) : Prop := rC_r (fun (a0 : Nat) => ∃ g t e, rAt9 K n σ a0 g t e ∧ rRQ9 g t.toInt e.toInt) vs
noncomputable def rb_356 (N : Int) (K : Nat → Nat) (n : Nat) (vs : List jv) (σ : Nat → jcell) : Prop := rC_ri (fun (a0 : Nat) (a1 : Int) => a1 = 0 → ∃ g t e, rAt9 K n σ a0 g t e ∧ rRQ9 g t.toInt e.toInt) vs
noncomputable def rb_357 (N : Int) (K : Nat → Nat) (n : Nat) (vs : List jv) (σ : Nat → jcell) : Prop := rC_ri (fun (a0 : Nat) (a1 : Int) => ∃ g t e, rAt9 K n σ a0 g t e ∧ ((a1 = 1 ∧ rGw9 g t.toInt e.toInt 49 45 48) ∨ (a1 = 0 ∧ ¬ rGw9 g t.toInt e.toInt 49 45 48))) vs
noncomputable def rb_358 (N : Int) (K : Nat → Nat) (n : Nat) (vs : List jv) (σ : Nat → jcell) : Prop := rC_ri (fun (a0 : Nat) (a1 : Int) => ∃ g t e, rAt9 K n σ a0 g t e ∧ ((a1 = 1 ∧ rHf9 g t.toInt e.toInt) ∨ (a1 = 0 ∧ ¬ rHf9 g t.toInt e.toInt))) vs
noncomputable def rb_359 (N : Int) (K : Nat → Nat) (n : Nat) (vs : List jv) (σ : Nat → jcell) : Prop := rC_i (fun (a0 : Int) => True) vs
noncomputable def rb_360 (N : Int) (K : Nat → Nat) (n : Nat) (vs : List jv) (σ : Nat → jcell) : Prop := rC_i (fun (a0 : Int) => True) vs
noncomputable def rb_361 (N : Int) (K : Nat → Nat) (n : Nat) (vs : List jv) (σ : Nat → jcell) : Prop := rC_i (fun (a0 : Int) => True) vs
noncomputable def rb_362 (N : Int) (K : Nat → Nat) (n : Nat) (vs : List jv) (σ : Nat → jcell) : Prop := rC_i (fun (a0 : Int) => True) vs
noncomputable def rb_363 (N : Int) (K : Nat → Nat) (n : Nat) (vs : List jv) (σ : Nat → jcell) : Prop := rC_i (fun (a0 : Int) => True) vs
noncomputable def rb_364 (N : Int) (K : Nat → Nat) (n : Nat) (vs : List jv) (σ : Nat → jcell) : Prop := rC_ri (fun (a0 : Nat) (a1 : Int) => ∃ g t e, rAt9 K n σ a0 g t e ∧ ((a1 = 1 ∧ rGw9 g t.toInt e.toInt 48 45 49) ∨ (a1 = 0 ∧ ¬ rGw9 g t.toInt e.toInt 48 45 49))) vs
noncomputable def rb_365 (N : Int) (K : Nat → Nat) (n : Nat) (vs : List jv) (σ : Nat → jcell) : Prop := rC_ri (fun (a0 : Nat) (a1 : Int) => ∃ g t e, rAt9 K n σ a0 g t e ∧ ((a1 = 1 ∧ rGw9 g t.toInt e.toInt 49 47 50) ∨ (a1 = 0 ∧ ¬ rGw9 g t.toInt e.toInt 49 47 50))) vs
noncomputable def rb_366 (N : Int) (K : Nat → Nat) (n : Nat) (vs : List jv) (σ : Nat → jcell) : Prop := rC_r (fun (a0 : Nat) => ∃ g t e, rAt9 K n σ a0 g t e ∧ ¬ rLk9 g t.toInt e.toInt = 42) vs
noncomputable def rb_367 (N : Int) (K : Nat → Nat) (n : Nat) (vs : List jv) (σ : Nat → jcell) : Prop := rC_r (fun (a0 : Nat) => ∃ g h : Int32, rOb K n σ a0 62 5 (rI g) ∧ rOb K n σ a0 62 6 (rI h) ∧ (∃ C y, rTY K n σ a0 g.toInt C y ∧ 0 ≤ h.toInt ∧ h.toInt ≤ C) ∧ rSL9 K n σ a0 g.toInt h.toInt) vs
noncomputable def rb_368 (N : Int) (K : Nat → Nat) (n : Nat) (vs : List jv) (σ : Nat → jcell) : Prop := rC_rii (fun (a0 : Nat) (a1 : Int) (a2 : Int) => a2 = 0 → ∃ C y, rTY K n σ a0 a1 C y) vs
noncomputable def rb_369 (N : Int) (K : Nat → Nat) (n : Nat) (vs : List jv) (σ : Nat → jcell) : Prop := rC_ri (fun (a0 : Nat) (a1 : Int) => ∃ C y, rTY K n σ a0 a1 C y ∧ (True)) vs
noncomputable def rb_370 (N : Int) (K : Nat → Nat) (n : Nat) (vs : List jv) (σ : Nat → jcell) : Prop := rC_ri (fun (a0 : Nat) (a1 : Int) => ∃ g, rRo K n σ a0 55 14 58 32768 g ∧ ∀ j, 0 ≤ j → j < a1 → (g j.toNat).toInt ≤ 65535) vs
noncomputable def rb_371 (N : Int) (K : Nat → Nat) (n : Nat) (vs : List jv) (σ : Nat → jcell) : Prop := rC_ri (fun (a0 : Nat) (a1 : Int) => ∃ g, rRo K n σ a0 55 14 58 32768 g ∧ ∀ j, 0 ≤ j → j < a1 + 1 → (g j.toNat).toInt ≤ 65535) vs
noncomputable def rb_372 (N : Int) (K : Nat → Nat) (n : Nat) (vs : List jv) (σ : Nat → jcell) : Prop := rC_ri (fun (a0 : Nat) (a1 : Int) => ∃ g h, rRo K n σ a0 55 14 58 32768 g ∧ rRo K n σ a0 55 15 59 32768 h ∧ ∀ j, 0 ≤ j → j < a1 → (g j.toNat).toInt < (h j.toNat).toInt) vs
noncomputable def rb_373 (N : Int) (K : Nat → Nat) (n : Nat) (vs : List jv) (σ : Nat → jcell) : Prop := rC_ri (fun (a0 : Nat) (a1 : Int) => ∃ g h, rRo K n σ a0 55 14 58 32768 g ∧ rRo K n σ a0 55 15 59 32768 h ∧ ∀ j, 0 ≤ j → j < a1 + 1 → (g j.toNat).toInt < (h j.toNat).toInt) vs
noncomputable def rb_374 (N : Int) (K : Nat → Nat) (n : Nat) (vs : List jv) (σ : Nat → jcell) : Prop := rC_rii (fun (a0 : Nat) (a1 : Int) (a2 : Int) => 0 ≤ a1 ∧ ∃ g, rRo K n σ a0 55 14 58 32768 g ∧ (g a1.toNat).toInt = a2) vs
noncomputable def rb_375 (N : Int) (K : Nat → Nat) (n : Nat) (vs : List jv) (σ : Nat → jcell) : Prop := rC_rii (fun (a0 : Nat) (a1 : Int) (a2 : Int) => 0 ≤ a1 ∧ ∃ g, rRo K n σ a0 55 14 58 32768 g ∧ (g a1.toNat).toInt + a2 ≤ 65536) vs
noncomputable def rb_376 (N : Int) (K : Nat → Nat) (n : Nat) (vs : List jv) (σ : Nat → jcell) : Prop := rC_r (fun (a0 : Nat) => ∃ M, rMe K n σ a0 M ∧ (rVal M)) vs
noncomputable def rb_377 (N : Int) (K : Nat → Nat) (n : Nat) (vs : List jv) (σ : Nat → jcell) : Prop := rC_ri (fun (a0 : Nat) (a1 : Int) => ∃ M, rMe K n σ a0 M ∧ (∀ s, a1 < s / 8 → rV1s M s)) vs
noncomputable def rb_378 (N : Int) (K : Nat → Nat) (n : Nat) (vs : List jv) (σ : Nat → jcell) : Prop := rC_rii (fun (a0 : Nat) (a1 : Int) (a2 : Int) => ∃ M, rMe K n σ a0 M ∧ (∀ s, (a1 < s / 8 ∨ (s / 8 = a1 ∧ s % 8 < a2)) → rV1s M s)) vs
noncomputable def rb_379 (N : Int) (K : Nat → Nat) (n : Nat) (vs : List jv) (σ : Nat → jcell) : Prop := rC_riii (fun (a0 : Nat) (a1 : Int) (a2 : Int) (a3 : Int) => ∃ M, rMe K n σ a0 M ∧ (∀ s, (a1 < s / 8 ∨ (s / 8 = a1 ∧ s % 8 < a2 + a3)) → rV1s M s)) vs
noncomputable def rb_380 (N : Int) (K : Nat → Nat) (n : Nat) (vs : List jv) (σ : Nat → jcell) : Prop := rC_riii (fun (a0 : Nat) (a1 : Int) (a2 : Int) (a3 : Int) => ∃ M, rMe K n σ a0 M ∧ (∀ s, (a1 < s / 8 ∨ (s / 8 = a1 ∧ s % 8 < a2 + a3 + 1)) → rV1s M s)) vs
noncomputable def rb_381 (N : Int) (K : Nat → Nat) (n : Nat) (vs : List jv) (σ : Nat → jcell) : Prop := rC_rii (fun (a0 : Nat) (a1 : Int) (a2 : Int) => ∃ M, rMe K n σ a0 M ∧ (∀ s, (a1 < s / 8 ∨ (s / 8 = a1 ∧ s % 8 < a2 + 1)) → rV1s M s)) vs
noncomputable def rb_382 (N : Int) (K : Nat → Nat) (n : Nat) (vs : List jv) (σ : Nat → jcell) : Prop := rC_rri (fun (a0 : Nat) (a1 : Nat) (a2 : Int) => ∃ g h, rRo K n σ a0 62 24 82 64 g ∧ rRo K n σ a1 88 2 90 64 h ∧ ∀ j, 0 ≤ j → j < a2 → j ≤ 63 → (g j.toNat).toInt = (h j.toNat).toInt) vs
noncomputable def rb_383 (N : Int) (K : Nat → Nat) (n : Nat) (vs : List jv) (σ : Nat → jcell) : Prop := rC_rri (fun (a0 : Nat) (a1 : Nat) (a2 : Int) => ∃ g h, rRo K n σ a0 62 24 82 64 g ∧ rRo K n σ a1 88 2 90 64 h ∧ ∀ j, 0 ≤ j → j < a2 + 1 → j ≤ 63 → (g j.toNat).toInt = (h j.toNat).toInt) vs
noncomputable def rb_384 (N : Int) (K : Nat → Nat) (n : Nat) (vs : List jv) (σ : Nat → jcell) : Prop := rC_ri (fun (a0 : Nat) (a1 : Int) => ∃ M, rMe K n σ a0 M ∧ (0 ≤ a1 → rVal M)) vs
noncomputable def rb_385 (N : Int) (K : Nat → Nat) (n : Nat) (vs : List jv) (σ : Nat → jcell) : Prop := rC_i (fun (a0 : Int) => a0 = 0 ∨ (1 ≤ a0 ∧ a0 ≤ 6) ∨ (9 ≤ a0 ∧ a0 ≤ 14)) vs
noncomputable def rb_386 (N : Int) (K : Nat → Nat) (n : Nat) (vs : List jv) (σ : Nat → jcell) : Prop := rC_ri (fun (a0 : Nat) (a1 : Int) => a1 = 0 → rFO K n σ a0 ∧ ∃ M, rMe K n σ a0 M ∧ rVal M) vs
noncomputable def rb_387 (N : Int) (K : Nat → Nat) (n : Nat) (vs : List jv) (σ : Nat → jcell) : Prop := rC_r (fun (a0 : Nat) => ∃ v : Int32, rOb K n σ a0 62 29 (rI v) ∧ 0 ≤ v.toInt ∧ v.toInt ≤ 999) vs
noncomputable def rb_388 (N : Int) (K : Nat → Nat) (n : Nat) (vs : List jv) (σ : Nat → jcell) : Prop := rC_r (fun (a0 : Nat) => ∃ g, rRo K n σ a0 62 31 84 5 g ∧ 0 ≤ (g 4).toInt ∧ (g 4).toInt ≤ 999) vs
noncomputable def rb_389 (N : Int) (K : Nat → Nat) (n : Nat) (vs : List jv) (σ : Nat → jcell) : Prop := rC_rriiii (fun (a0 : Nat) (a1 : Nat) (a2 : Int) (a3 : Int) (a4 : Int) (a5 : Int) => ∃ C y, rTY K n σ a1 a2 C y ∧ 0 ≤ a3 ∧ a3 ≤ C ∧ 0 ≤ a4 ∧ rPthM K n σ a0 y a3 a4 ∧ a5 = rUa y.1 a4.toNat a3 ∧ 0 ≤ a5 ∧ a5 ≤ C) vs
noncomputable def rb_390 (N : Int) (K : Nat → Nat) (n : Nat) (vs : List jv) (σ : Nat → jcell) : Prop := rC_rriiii (fun (a0 : Nat) (a1 : Nat) (a2 : Int) (a3 : Int) (a4 : Int) (a5 : Int) => ∃ C y, rTY K n σ a1 a2 C y ∧ 0 ≤ a3 ∧ a3 ≤ C ∧ 0 ≤ a4 ∧ rPthM K n σ a0 y a3 (a4 + 1) ∧ a5 = rUa y.1 a4.toNat a3 ∧ 1 ≤ a5 ∧ a5 ≤ C) vs
noncomputable def rb_391 (N : Int) (K : Nat → Nat) (n : Nat) (vs : List jv) (σ : Nat → jcell) : Prop := rC_rriii (fun (a0 : Nat) (a1 : Nat) (a2 : Int) (a3 : Int) (a4 : Int) => ∃ C y, rTY K n σ a1 a2 C y ∧ 0 ≤ a3 ∧ a3 ≤ C ∧ 0 ≤ a4 ∧ rPthM K n σ a0 y a3 a4 ∧ rUa y.1 a4.toNat a3 = 0) vs
noncomputable def rb_392 (N : Int) (K : Nat → Nat) (n : Nat) (vs : List jv) (σ : Nat → jcell) : Prop := rC_rrii (fun (a0 : Nat) (a1 : Nat) (a2 : Int) (a3 : Int) => 0 ≤ a2 ∧ ∃ g5 gm, rRo K n σ a1 62 16 74 128 g5 ∧ rRo K n σ a0 88 2 90 64 gm ∧ ∀ j, 0 ≤ j → j < a3 → j ≤ 63 → (gm j.toNat).toInt = (g5 (64 * a2 + j).toNat).toInt) vs
noncomputable def rb_393 (N : Int) (K : Nat → Nat) (n : Nat) (vs : List jv) (σ : Nat → jcell) : Prop := rC_rrii (fun (a0 : Nat) (a1 : Nat) (a2 : Int) (a3 : Int) => 0 ≤ a2 ∧ ∃ g5 gm, rRo K n σ a1 62 16 74 128 g5 ∧ rRo K n σ a0 88 2 90 64 gm ∧ ∀ j, 0 ≤ j → j < a3 + 1 → j ≤ 63 → (gm j.toNat).toInt = (g5 (64 * a2 + j).toNat).toInt) vs
noncomputable def rb_394 (N : Int) (K : Nat → Nat) (n : Nat) (vs : List jv) (σ : Nat → jcell) : Prop := rC_rrriiii (fun (a0 : Nat) (a1 : Nat) (a2 : Nat) (a3 : Int) (a4 : Int) (a5 : Int) (a6 : Int) => ∃ C y, rTY K n σ a1 a3 C y ∧ 0 ≤ a4 ∧ a4 ≤ C ∧ 0 ≤ a5 ∧ rPthM K n σ a0 y a4 a5 ∧ rUa y.1 a5.toNat a4 = 0 ∧ -1 ≤ a6 ∧ a6 < a5 ∧ rRX K n σ a2 (rPo y (rUa y.1 (a6 + 1).toNat a4))) vs
noncomputable def rb_395 (N : Int) (K : Nat → Nat) (n : Nat) (vs : List jv) (σ : Nat → jcell) : Prop := rC_rrriiii (fun (a0 : Nat) (a1 : Nat) (a2 : Nat) (a3 : Int) (a4 : Int) (a5 : Int) (a6 : Int) => ∃ C y, rTY K n σ a1 a3 C y ∧ 0 ≤ a4 ∧ a4 ≤ C ∧ 0 ≤ a5 ∧ rPthM K n σ a0 y a4 a5 ∧ rUa y.1 a5.toNat a4 = 0 ∧ 0 ≤ a6 ∧ a6 < a5 ∧ rRX K n σ a2 (rPo y (rUa y.1 a6.toNat a4))) vs
noncomputable def rb_396 (N : Int) (K : Nat → Nat) (n : Nat) (vs : List jv) (σ : Nat → jcell) : Prop := rC_rrii (fun (a0 : Nat) (a1 : Nat) (a2 : Int) (a3 : Int) => ∃ pa mo q0, rSt3 K n σ a1 a2 pa mo q0 ∧ rRX K n σ a0 (rPo3 pa mo q0 a3)) vs
noncomputable def rb_397 (N : Int) (K : Nat → Nat) (n : Nat) (vs : List jv) (σ : Nat → jcell) : Prop := rC_rii (fun (a0 : Nat) (a1 : Int) (a2 : Int) => rPG0 K n σ a0 (a1 - a2)) vs
noncomputable def rb_398 (N : Int) (K : Nat → Nat) (n : Nat) (vs : List jv) (σ : Nat → jcell) : Prop := rC_ri (fun (a0 : Nat) (a1 : Int) => 0 ≤ a1 ∧ a1 ≤ 63 ∧ ∃ g, rRo K n σ a0 62 24 82 64 g ∧ ((1 ≤ (g a1.toNat).toInt ∧ (g a1.toNat).toInt ≤ 5) ∨ (9 ≤ (g a1.toNat).toInt ∧ (g a1.toNat).toInt ≤ 13))) vs
noncomputable def rb_399 (N : Int) (K : Nat → Nat) (n : Nat) (vs : List jv) (σ : Nat → jcell) : Prop := rC_r (fun (a0 : Nat) => (rOb K n σ a0 55 7 (.inr (.inr none)) ∧ ∀ q, q < n → ¬ K q = 109) ∨ ∃ m, rOb K n σ a0 55 7 (rR m) ∧ ∃ g, rRo K n σ m 109 5 112 6 g ∧ ∀ j : Nat, 2 ≤ j → j ≤ 5 → (g j).toInt ≤ 100000000) vs
noncomputable def rb_450 (N : Int) (K : Nat → Nat) (n : Nat) (p : rP) (vs : List jv) (σ : Nat → jcell) : Prop := rC_ri (fun (a0 : Nat) (a1 : Int) => ∃ C y, rTY K n σ a0 a1 C y ∧ (∃ z, p.2 = some z ∧ z ≤ C)) vs
noncomputable def rb_451 (N : Int) (K : Nat → Nat) (n : Nat) (p : rP) (vs : List jv) (σ : Nat → jcell) : Prop := rC_i (fun (a0 : Int) => ∃ z, p.2 = some z ∧ z ≤ a0) vs
noncomputable def rb_452 (N : Int) (K : Nat → Nat) (n : Nat) (p : rP) (vs : List jv) (σ : Nat → jcell) : Prop := rC_i (fun (a0 : Int) => 1 ≤ a0 → ∃ z, p.2 = some z ∧ z ≤ a0) vs
noncomputable def rb_453 (N : Int) (K : Nat → Nat) (n : Nat) (p : rP) (vs : List jv) (σ : Nat → jcell) : Prop := rC_ri (fun (a0 : Nat) (a1 : Int) => ∃ C y, rTY K n σ a0 a1 C y ∧ (∃ z, p.2 = some z ∧ z ≤ C)) vs
noncomputable def rb_454 (N : Int) (K : Nat → Nat) (n : Nat) (p : rP) (vs : List jv) (σ : Nat → jcell) : Prop := rC_i (fun (a0 : Int) => N ≤ a0) vs
noncomputable def rb_455 (N : Int) (K : Nat → Nat) (n : Nat) (p : rP) (vs : List jv) (σ : Nat → jcell) : Prop := rC_i (fun (a0 : Int) => N + 1 ≤ a0) vs
noncomputable def rb_456 (N : Int) (K : Nat → Nat) (n : Nat) (p : rP) (vs : List jv) (σ : Nat → jcell) : Prop := rC_riii (fun (a0 : Nat) (a1 : Int) (a2 : Int) (a3 : Int) => ∃ C y, rTY K n σ a0 a1 C y ∧ (∃ z, p.2 = some z ∧ z ≤ 79400 ∧ a3 + 243 * rSz C y.1 a2 ≤ z + 3 ∧ 1 ≤ a2 ∧ a2 ≤ C)) vs
noncomputable def rb_457 (N : Int) (K : Nat → Nat) (n : Nat) (p : rP) (vs : List jv) (σ : Nat → jcell) : Prop := rC_i (fun (a0 : Int) => ∃ z, p.2 = some z ∧ z ≤ 79400 ∧ a0 ≤ z) vs
noncomputable def rb_458 (N : Int) (K : Nat → Nat) (n : Nat) (p : rP) (vs : List jv) (σ : Nat → jcell) : Prop := rC_riiii (fun (a0 : Nat) (a1 : Int) (a2 : Int) (a3 : Int) (a4 : Int) => ∃ C y, rTY K n σ a0 a1 C y ∧ (∃ z, p.2 = some z ∧ z ≤ 79400 ∧ ((a2 < 0 ∧ a4 ≤ z) ∨ (1 ≤ a2 ∧ a2 ≤ C ∧ N ≤ a2 ∧ ((a3 = 0 ∧ a4 + 243 * rSz C y.1 a2 ≤ z + 3) ∨ (a3 = 1 ∧ N ≤ y.1 a2 ∧ ∃ s, rSs N C y a2 s ∧ a4 + 243 * s ≤ z + 3)))))) vs
noncomputable def rb_459 (N : Int) (K : Nat → Nat) (n : Nat) (p : rP) (vs : List jv) (σ : Nat → jcell) : Prop := rC_riiii (fun (a0 : Nat) (a1 : Int) (a2 : Int) (a3 : Int) (a4 : Int) => ∃ C y, rTY K n σ a0 a1 C y ∧ (∃ z, p.2 = some z ∧ z ≤ 79400 ∧ 1 ≤ a2 ∧ a2 ≤ C ∧ N ≤ a2 ∧ ∃ s, rSs N C y a3 s ∧ a4 + 243 * s + 243 * (rSz C y.1 a2 - 1) ≤ z)) vs
noncomputable def rb_460 (N : Int) (K : Nat → Nat) (n : Nat) (p : rP) (vs : List jv) (σ : Nat → jcell) : Prop := rC_riiii (fun (a0 : Nat) (a1 : Int) (a2 : Int) (a3 : Int) (a4 : Int) => ∃ C y, rTY K n σ a0 a1 C y ∧ (∃ z, p.2 = some z ∧ z ≤ 79400 ∧ 1 ≤ a2 ∧ a2 ≤ C ∧ N ≤ a2 ∧ ∃ s, rSs N C y (y.2.2.2.1 a3) s ∧ a4 + 1 + 243 * s + 243 * (rSz C y.1 a2 - 1) ≤ z)) vs
noncomputable def rb_461 (N : Int) (K : Nat → Nat) (n : Nat) (p : rP) (vs : List jv) (σ : Nat → jcell) : Prop := rC_riii (fun (a0 : Nat) (a1 : Int) (a2 : Int) (a3 : Int) => ∃ C y, rTY K n σ a0 a1 C y ∧ (∃ z, p.2 = some z ∧ z ≤ 79400 ∧ ((a2 < 0 ∧ a3 ≤ z) ∨ (1 ≤ a2 ∧ a2 ≤ C ∧ N ≤ a2 ∧ N ≤ y.1 a2 ∧ ∃ s, rSs N C y a2 s ∧ a3 + 243 * s ≤ z)))) vs
noncomputable def rb_462 (N : Int) (K : Nat → Nat) (n : Nat) (p : rP) (vs : List jv) (σ : Nat → jcell) : Prop := rC_rii (fun (a0 : Nat) (a1 : Int) (a2 : Int) => p.2 = none ∧ ∃ pa mo q0, rSt3 K n σ a0 a1 pa mo q0 ∧ p.1 = rPo3 pa mo q0 a2) vs
noncomputable def rb_463 (N : Int) (K : Nat → Nat) (n : Nat) (p : rP) (vs : List jv) (σ : Nat → jcell) : Prop := rC_r (fun (a0 : Nat) => ∃ c : Int32, rOb K n σ a0 62 33 (rI c) ∧ c.toInt ≤ 2048 ∧ rTL K n σ a0 c.toInt p.1) vs
noncomputable def rb_464 (N : Int) (K : Nat → Nat) (n : Nat) (p : rP) (vs : List jv) (σ : Nat → jcell) : Prop := rC_rriiii (fun (a0 : Nat) (a1 : Nat) (a2 : Int) (a3 : Int) (a4 : Int) (a5 : Int) => p.2 = none ∧ ∃ C y, rTY K n σ a1 a2 C y ∧ 0 ≤ a3 ∧ a3 ≤ C ∧ 0 ≤ a4 ∧ rPthM K n σ a0 y a3 a4 ∧ rUa y.1 a4.toNat a3 = 0 ∧ 0 ≤ a5 ∧ a5 < a4 ∧ p.1 = rPo y (rUa y.1 (a5 + 1).toNat a3)) vs
noncomputable def rb_465 (N : Int) (K : Nat → Nat) (n : Nat) (p : rP) (vs : List jv) (σ : Nat → jcell) : Prop := rC_rriii (fun (a0 : Nat) (a1 : Nat) (a2 : Int) (a3 : Int) (a4 : Int) => p.2 = none ∧ ∃ C y, rTY K n σ a1 a2 C y ∧ 0 ≤ a3 ∧ a3 ≤ C ∧ 0 ≤ a4 ∧ rPthM K n σ a0 y a3 a4 ∧ rUa y.1 a4.toNat a3 = 0 ∧ p.1 = rPo y 0) vs
noncomputable def rb_466 (N : Int) (K : Nat → Nat) (n : Nat) (p : rP) (vs : List jv) (σ : Nat → jcell) : Prop := rC_rriiii (fun (a0 : Nat) (a1 : Nat) (a2 : Int) (a3 : Int) (a4 : Int) (a5 : Int) => p.2 = none ∧ ∃ C y, rTY K n σ a1 a2 C y ∧ 0 ≤ a3 ∧ a3 ≤ C ∧ 0 ≤ a4 ∧ rPthM K n σ a0 y a3 a4 ∧ rUa y.1 a4.toNat a3 = 0 ∧ 0 ≤ a5 ∧ a5 < a4 ∧ p.1 = rPo y (rUa y.1 a5.toNat a3)) vs
noncomputable def rb_468 (N : Int) (K : Nat → Nat) (n : Nat) (p : rP) (vs : List jv) (σ : Nat → jcell) : Prop := rC_rii (fun (a0 : Nat) (a1 : Int) (a2 : Int) => a2 = 1 → ∃ g, rRo K n σ a0 88 33 107 4 g ∧ rLn a0 p g 0 (2 * a1).toNat) vs
noncomputable def rb_469 (N : Int) (K : Nat → Nat) (n : Nat) (p : rP) (vs : List jv) (σ : Nat → jcell) : Prop := rC_ii (fun (a0 : Int) (a1 : Int) => rJq a0 a1 = true) vs
noncomputable def rb_470 (N : Int) (K : Nat → Nat) (n : Nat) (p : rP) (vs : List jv) (σ : Nat → jcell) : Prop := rC_iiiii (fun (a0 : Int) (a1 : Int) (a2 : Int) (a3 : Int) (a4 : Int) => 0 ≤ a3 ∧ a3 ≤ 64 ∧ a4 ≤ rJb a0 a1 a2 a3) vs
noncomputable def rb_471 (N : Int) (K : Nat → Nat) (n : Nat) (p : rP) (vs : List jv) (σ : Nat → jcell) : Prop := rC_iiiii (fun (a0 : Int) (a1 : Int) (a2 : Int) (a3 : Int) (a4 : Int) => 0 ≤ a3 ∧ a3 ≤ 63 ∧ a4 ≤ rJb a0 a1 a2 (a3 + 1)) vs
noncomputable def rb_472 (N : Int) (K : Nat → Nat) (n : Nat) (p : rP) (vs : List jv) (σ : Nat → jcell) : Prop := rC_iii (fun (a0 : Int) (a1 : Int) (a2 : Int) => a2 = 1 → rJn a0 a1 = true) vs
noncomputable def rb_473 (N : Int) (K : Nat → Nat) (n : Nat) (p : rP) (vs : List jv) (σ : Nat → jcell) : Prop := rC_iii (fun (a0 : Int) (a1 : Int) (a2 : Int) => a0 = 1 → a1 = a2) vs
noncomputable def rb_474 (N : Int) (K : Nat → Nat) (n : Nat) (p : rP) (vs : List jv) (σ : Nat → jcell) : Prop := rC_r (fun (a0 : Nat) => ∃ z, p.2 = some z ∧ rJe K n σ a0 z) vs
noncomputable def rb_475 (N : Int) (K : Nat → Nat) (n : Nat) (p : rP) (vs : List jv) (σ : Nat → jcell) : Prop := rC_riiiiii (fun (a0 : Nat) (a1 : Int) (a2 : Int) (a3 : Int) (a4 : Int) (a5 : Int) (a6 : Int) => a6 < 0 → rJy K n σ a0 (524288 * a1 + 262144 * a2 + 4096 * a3 + 64 * a4 + a5 - 524288)) vs
noncomputable def rb_476 (N : Int) (K : Nat → Nat) (n : Nat) (p : rP) (vs : List jv) (σ : Nat → jcell) : Prop := rC_riii (fun (a0 : Nat) (a1 : Int) (a2 : Int) (a3 : Int) => ∃ g, rJl K n σ a0 109 3 110 327680 g ∧ 4 * (rJs g 327680 : Int) + 2 * max 0 (2 - a2) + rJg a1 ≤ a3) vs
noncomputable def rb_477 (N : Int) (K : Nat → Nat) (n : Nat) (p : rP) (vs : List jv) (σ : Nat → jcell) : Prop := rC_iii (fun (a0 : Int) (a1 : Int) (a2 : Int) => ∃ z, p.2 = some z ∧ 4 * z + 2 * max 0 (2 - a1) + rJg a0 ≤ a2) vs
noncomputable def rb_478 (N : Int) (K : Nat → Nat) (n : Nat) (p : rP) (vs : List jv) (σ : Nat → jcell) : Prop := rC_iii (fun (a0 : Int) (a1 : Int) (a2 : Int) => 0 ≤ a0 ∧ (a2 < 0 → a1 ≤ rJc (rJk p.1.1) a0.toNat)) vs
noncomputable def rb_479 (N : Int) (K : Nat → Nat) (n : Nat) (p : rP) (vs : List jv) (σ : Nat → jcell) : Prop := rC_i (fun (a0 : Int) => 0 ≤ a0 → ¬ p.1.1 a0 = 0 ∧ ¬ p.1.1 a0 = 6 ∧ ¬ p.1.1 a0 = 14) vs
noncomputable def rb_480 (N : Int) (K : Nat → Nat) (n : Nat) (p : rP) (vs : List jv) (σ : Nat → jcell) : Prop := rC_ri (fun (a0 : Nat) (a1 : Int) => ∃ g, rRw K n σ a0 107 4 g ∧ (g 0).toInt = a1) vs
noncomputable def rb_481 (N : Int) (K : Nat → Nat) (n : Nat) (p : rP) (vs : List jv) (σ : Nat → jcell) : Prop := rC_ri (fun (a0 : Nat) (a1 : Int) => ∃ g, rRw K n σ a0 107 4 g ∧ (g 1).toInt = a1) vs
noncomputable def rb_482 (N : Int) (K : Nat → Nat) (n : Nat) (p : rP) (vs : List jv) (σ : Nat → jcell) : Prop := rC_ri (fun (a0 : Nat) (a1 : Int) => ∃ g, rRw K n σ a0 107 4 g ∧ (g 2).toInt = a1) vs
noncomputable def rb_483 (N : Int) (K : Nat → Nat) (n : Nat) (p : rP) (vs : List jv) (σ : Nat → jcell) : Prop := rC_ri (fun (a0 : Nat) (a1 : Int) => ∃ g, rRw K n σ a0 107 4 g ∧ (g 3).toInt = a1) vs
noncomputable def rb_484 (N : Int) (K : Nat → Nat) (n : Nat) (p : rP) (vs : List jv) (σ : Nat → jcell) : Prop := rC_riii (fun (a0 : Nat) (a1 : Int) (a2 : Int) (a3 : Int) => a3 = 1 → ∃ C y, rTY K n σ a0 a1 C y ∧ 0 ≤ a2 ∧ a2 ≤ C) vs
noncomputable def rb_485 (N : Int) (K : Nat → Nat) (n : Nat) (p : rP) (vs : List jv) (σ : Nat → jcell) : Prop := rC_iii (fun (a0 : Int) (a1 : Int) (a2 : Int) => a2 = 1 → rJq a0 a1 = true) vs
noncomputable def rb_486 (N : Int) (K : Nat → Nat) (n : Nat) (p : rP) (vs : List jv) (σ : Nat → jcell) : Prop := rC_iiii (fun (a0 : Int) (a1 : Int) (a2 : Int) (a3 : Int) => a3 ≤ rJb a0 a1 a2 0) vs
noncomputable def rb_487 (N : Int) (K : Nat → Nat) (n : Nat) (p : rP) (vs : List jv) (σ : Nat → jcell) : Prop := rC_ii (fun (a0 : Int) (a1 : Int) => rJn a0 a1 = true) vs
noncomputable def rb_488 (N : Int) (K : Nat → Nat) (n : Nat) (p : rP) (vs : List jv) (σ : Nat → jcell) : Prop := rC_iiii (fun (a0 : Int) (a1 : Int) (a2 : Int) (a3 : Int) => a0 = 1 → a1 = a2) vs
noncomputable def rb_489 (N : Int) (K : Nat → Nat) (n : Nat) (p : rP) (vs : List jv) (σ : Nat → jcell) : Prop := rC_ri (fun (a0 : Nat) (a1 : Int) => ∃ z, p.2 = some z ∧ (¬ (a1 + 1) % 256 = 0 → rJe K n σ a0 (z - 1)) ∧ rJe K n σ a0 z) vs
noncomputable def rb_490 (N : Int) (K : Nat → Nat) (n : Nat) (p : rP) (vs : List jv) (σ : Nat → jcell) : Prop := rC_rii (fun (a0 : Nat) (a1 : Int) (a2 : Int) => ∃ z, p.2 = some z ∧ (a1 = 1 → ¬ (a2 + 1) % 256 = 0 → rJe K n σ a0 (z - 1)) ∧ rJe K n σ a0 z) vs
noncomputable def rb_491 (N : Int) (K : Nat → Nat) (n : Nat) (p : rP) (vs : List jv) (σ : Nat → jcell) : Prop := rC_riiiii (fun (a0 : Nat) (a1 : Int) (a2 : Int) (a3 : Int) (a4 : Int) (a5 : Int) => rJy K n σ a0 (524288 * a1 + 262144 * a2 + 4096 * a3 + 64 * a4 + a5 - 524288)) vs
noncomputable def rb_492 (N : Int) (K : Nat → Nat) (n : Nat) (p : rP) (vs : List jv) (σ : Nat → jcell) : Prop := rC_iiii (fun (a0 : Int) (a1 : Int) (a2 : Int) (a3 : Int) => 0 ≤ a0 ∧ (a2 < 0 → a1 ≤ rJc (rJk p.1.1) (a0 + 1).toNat)) vs
noncomputable def rb_493 (N : Int) (K : Nat → Nat) (n : Nat) (p : rP) (vs : List jv) (σ : Nat → jcell) : Prop := rC_li (fun (a0 : Int64) (a1 : Int) => 0 ≤ a0.toInt ∧ a0.toInt ≤ 2048 ^ a1.toNat) vs
noncomputable def rb_494 (N : Int) (K : Nat → Nat) (n : Nat) (p : rP) (vs : List jv) (σ : Nat → jcell) : Prop := rC_lii (fun (a0 : Int64) (a1 : Int) (a2 : Int) => 0 ≤ a0.toInt ∧ a0.toInt ≤ a1 * 2048 ^ (a2 - 1).toNat) vs
noncomputable def rb_495 (N : Int) (K : Nat → Nat) (n : Nat) (p : rP) (vs : List jv) (σ : Nat → jcell) : Prop := rC_lii (fun (a0 : Int64) (a1 : Int) (a2 : Int) => 0 ≤ a0.toInt ∧ a0.toInt ≤ (a1 + 1) * 2048 ^ (a2 - 1).toNat) vs
noncomputable def rb_496 (N : Int) (K : Nat → Nat) (n : Nat) (p : rP) (vs : List jv) (σ : Nat → jcell) : Prop := rC_li (fun (a0 : Int64) (a1 : Int) => (a1 = 0 ∧ a0.toInt = 0) ∨ (1 ≤ a1 ∧ a1 ≤ 18 ∧ a0.toInt = 10 ^ (a1 - 1).toNat)) vs
noncomputable def rXflllll (N : Int) (K : Nat → Nat) (n : Nat) (k : Nat) (vs : List jv) (σ : Nat → jcell) : Prop := cond (Nat.beq k 342) (rb_342 N K n vs σ) False
noncomputable def rXfllllrl (N : Int) (K : Nat → Nat) (n : Nat) (k : Nat) (vs : List jv) (σ : Nat → jcell) : Prop := cond (Nat.beq k 343) (rb_343 N K n vs σ) False
noncomputable def rXfllllrr (N : Int) (K : Nat → Nat) (n : Nat) (k : Nat) (vs : List jv) (σ : Nat → jcell) : Prop := cond (Nat.beq k 344) (rb_344 N K n vs σ) False
noncomputable def rXfllllr (N : Int) (K : Nat → Nat) (n : Nat) (k : Nat) (vs : List jv) (σ : Nat → jcell) : Prop := cond (Nat.ble k 343) (rXfllllrl N K n k vs σ) (rXfllllrr N K n k vs σ)
noncomputable def rXfllll (N : Int) (K : Nat → Nat) (n : Nat) (k : Nat) (vs : List jv) (σ : Nat → jcell) : Prop := cond (Nat.ble k 342) (rXflllll N K n k vs σ) (rXfllllr N K n k vs σ)
noncomputable def rXflllrll (N : Int) (K : Nat → Nat) (n : Nat) (k : Nat) (vs : List jv) (σ : Nat → jcell) : Prop := cond (Nat.beq k 345) (rb_345 N K n vs σ) False
noncomputable def rXflllrlr (N : Int) (K : Nat → Nat) (n : Nat) (k : Nat) (vs : List jv) (σ : Nat → jcell) : Prop := cond (Nat.beq k 346) (rb_346 N K n vs σ) False
noncomputable def rXflllrl (N : Int) (K : Nat → Nat) (n : Nat) (k : Nat) (vs : List jv) (σ : Nat → jcell) : Prop := cond (Nat.ble k 345) (rXflllrll N K n k vs σ) (rXflllrlr N K n k vs σ)
noncomputable def rXflllrrl (N : Int) (K : Nat → Nat) (n : Nat) (k : Nat) (vs : List jv) (σ : Nat → jcell) : Prop := cond (Nat.beq k 347) (rb_347 N K n vs σ) False
noncomputable def rXflllrrr (N : Int) (K : Nat → Nat) (n : Nat) (k : Nat) (vs : List jv) (σ : Nat → jcell) : Prop := cond (Nat.beq k 348) (rb_348 N K n vs σ) False
noncomputable def rXflllrr (N : Int) (K : Nat → Nat) (n : Nat) (k : Nat) (vs : List jv) (σ : Nat → jcell) : Prop := cond (Nat.ble k 347) (rXflllrrl N K n k vs σ) (rXflllrrr N K n k vs σ)
noncomputable def rXflllr (N : Int) (K : Nat → Nat) (n : Nat) (k : Nat) (vs : List jv) (σ : Nat → jcell) : Prop := cond (Nat.ble k 346) (rXflllrl N K n k vs σ) (rXflllrr N K n k vs σ)
noncomputable def rXflll (N : Int) (K : Nat → Nat) (n : Nat) (k : Nat) (vs : List jv) (σ : Nat → jcell) : Prop := cond (Nat.ble k 344) (rXfllll N K n k vs σ) (rXflllr N K n k vs σ)
noncomputable def rXfllrll (N : Int) (K : Nat → Nat) (n : Nat) (k : Nat) (vs : List jv) (σ : Nat → jcell) : Prop := cond (Nat.beq k 349) (rb_349 N K n vs σ) False
noncomputable def rXfllrlrl (N : Int) (K : Nat → Nat) (n : Nat) (k : Nat) (vs : List jv) (σ : Nat → jcell) : Prop := cond (Nat.beq k 350) (rb_350 N K n vs σ) False
noncomputable def rXfllrlrr (N : Int) (K : Nat → Nat) (n : Nat) (k : Nat) (vs : List jv) (σ : Nat → jcell) : Prop := cond (Nat.beq k 351) (rb_351 N K n vs σ) False
noncomputable def rXfllrlr (N : Int) (K : Nat → Nat) (n : Nat) (k : Nat) (vs : List jv) (σ : Nat → jcell) : Prop := cond (Nat.ble k 350) (rXfllrlrl N K n k vs σ) (rXfllrlrr N K n k vs σ)
noncomputable def rXfllrl (N : Int) (K : Nat → Nat) (n : Nat) (k : Nat) (vs : List jv) (σ : Nat → jcell) : Prop := cond (Nat.ble k 349) (rXfllrll N K n k vs σ) (rXfllrlr N K n k vs σ)
noncomputable def rXfllrrll (N : Int) (K : Nat → Nat) (n : Nat) (k : Nat) (vs : List jv) (σ : Nat → jcell) : Prop := cond (Nat.beq k 352) (rb_352 N K n vs σ) False
noncomputable def rXfllrrlr (N : Int) (K : Nat → Nat) (n : Nat) (k : Nat) (vs : List jv) (σ : Nat → jcell) : Prop := cond (Nat.beq k 353) (rb_353 N K n vs σ) False
noncomputable def rXfllrrl (N : Int) (K : Nat → Nat) (n : Nat) (k : Nat) (vs : List jv) (σ : Nat → jcell) : Prop := cond (Nat.ble k 352) (rXfllrrll N K n k vs σ) (rXfllrrlr N K n k vs σ)
noncomputable def rXfllrrrl (N : Int) (K : Nat → Nat) (n : Nat) (k : Nat) (vs : List jv) (σ : Nat → jcell) : Prop := cond (Nat.beq k 354) (rb_354 N K n vs σ) False
noncomputable def rXfllrrrr (N : Int) (K : Nat → Nat) (n : Nat) (k : Nat) (vs : List jv) (σ : Nat → jcell) : Prop := cond (Nat.beq k 355) (rb_355 N K n vs σ) False
noncomputable def rXfllrrr (N : Int) (K : Nat → Nat) (n : Nat) (k : Nat) (vs : List jv) (σ : Nat → jcell) : Prop := cond (Nat.ble k 354) (rXfllrrrl N K n k vs σ) (rXfllrrrr N K n k vs σ)
noncomputable def rXfllrr (N : Int) (K : Nat → Nat) (n : Nat) (k : Nat) (vs : List jv) (σ : Nat → jcell) : Prop := cond (Nat.ble k 353) (rXfllrrl N K n k vs σ) (rXfllrrr N K n k vs σ)
noncomputable def rXfllr (N : Int) (K : Nat → Nat) (n : Nat) (k : Nat) (vs : List jv) (σ : Nat → jcell) : Prop := cond (Nat.ble k 351) (rXfllrl N K n k vs σ) (rXfllrr N K n k vs σ)
noncomputable def rXfll (N : Int) (K : Nat → Nat) (n : Nat) (k : Nat) (vs : List jv) (σ : Nat → jcell) : Prop := cond (Nat.ble k 348) (rXflll N K n k vs σ) (rXfllr N K n k vs σ)
noncomputable def rXflrlll (N : Int) (K : Nat → Nat) (n : Nat) (k : Nat) (vs : List jv) (σ : Nat → jcell) : Prop := cond (Nat.beq k 356) (rb_356 N K n vs σ) False
noncomputable def rXflrllrl (N : Int) (K : Nat → Nat) (n : Nat) (k : Nat) (vs : List jv) (σ : Nat → jcell) : Prop := cond (Nat.beq k 357) (rb_357 N K n vs σ) False
noncomputable def rXflrllrr (N : Int) (K : Nat → Nat) (n : Nat) (k : Nat) (vs : List jv) (σ : Nat → jcell) : Prop := cond (Nat.beq k 358) (rb_358 N K n vs σ) False
noncomputable def rXflrllr (N : Int) (K : Nat → Nat) (n : Nat) (k : Nat) (vs : List jv) (σ : Nat → jcell) : Prop := cond (Nat.ble k 357) (rXflrllrl N K n k vs σ) (rXflrllrr N K n k vs σ)
noncomputable def rXflrll (N : Int) (K : Nat → Nat) (n : Nat) (k : Nat) (vs : List jv) (σ : Nat → jcell) : Prop := cond (Nat.ble k 356) (rXflrlll N K n k vs σ) (rXflrllr N K n k vs σ)
noncomputable def rXflrlrll (N : Int) (K : Nat → Nat) (n : Nat) (k : Nat) (vs : List jv) (σ : Nat → jcell) : Prop := cond (Nat.beq k 359) (rb_359 N K n vs σ) False
noncomputable def rXflrlrlr (N : Int) (K : Nat → Nat) (n : Nat) (k : Nat) (vs : List jv) (σ : Nat → jcell) : Prop := cond (Nat.beq k 360) (rb_360 N K n vs σ) False
noncomputable def rXflrlrl (N : Int) (K : Nat → Nat) (n : Nat) (k : Nat) (vs : List jv) (σ : Nat → jcell) : Prop := cond (Nat.ble k 359) (rXflrlrll N K n k vs σ) (rXflrlrlr N K n k vs σ)
noncomputable def rXflrlrrl (N : Int) (K : Nat → Nat) (n : Nat) (k : Nat) (vs : List jv) (σ : Nat → jcell) : Prop := cond (Nat.beq k 361) (rb_361 N K n vs σ) False
noncomputable def rXflrlrrr (N : Int) (K : Nat → Nat) (n : Nat) (k : Nat) (vs : List jv) (σ : Nat → jcell) : Prop := cond (Nat.beq k 362) (rb_362 N K n vs σ) False
noncomputable def rXflrlrr (N : Int) (K : Nat → Nat) (n : Nat) (k : Nat) (vs : List jv) (σ : Nat → jcell) : Prop := cond (Nat.ble k 361) (rXflrlrrl N K n k vs σ) (rXflrlrrr N K n k vs σ)
noncomputable def rXflrlr (N : Int) (K : Nat → Nat) (n : Nat) (k : Nat) (vs : List jv) (σ : Nat → jcell) : Prop := cond (Nat.ble k 360) (rXflrlrl N K n k vs σ) (rXflrlrr N K n k vs σ)
noncomputable def rXflrl (N : Int) (K : Nat → Nat) (n : Nat) (k : Nat) (vs : List jv) (σ : Nat → jcell) : Prop := cond (Nat.ble k 358) (rXflrll N K n k vs σ) (rXflrlr N K n k vs σ)
noncomputable def rXflrrlll (N : Int) (K : Nat → Nat) (n : Nat) (k : Nat) (vs : List jv) (σ : Nat → jcell) : Prop := cond (Nat.beq k 363) (rb_363 N K n vs σ) False
noncomputable def rXflrrllr (N : Int) (K : Nat → Nat) (n : Nat) (k : Nat) (vs : List jv) (σ : Nat → jcell) : Prop := cond (Nat.beq k 364) (rb_364 N K n vs σ) False
noncomputable def rXflrrll (N : Int) (K : Nat → Nat) (n : Nat) (k : Nat) (vs : List jv) (σ : Nat → jcell) : Prop := cond (Nat.ble k 363) (rXflrrlll N K n k vs σ) (rXflrrllr N K n k vs σ)
noncomputable def rXflrrlrl (N : Int) (K : Nat → Nat) (n : Nat) (k : Nat) (vs : List jv) (σ : Nat → jcell) : Prop := cond (Nat.beq k 365) (rb_365 N K n vs σ) False
noncomputable def rXflrrlrr (N : Int) (K : Nat → Nat) (n : Nat) (k : Nat) (vs : List jv) (σ : Nat → jcell) : Prop := cond (Nat.beq k 366) (rb_366 N K n vs σ) False
noncomputable def rXflrrlr (N : Int) (K : Nat → Nat) (n : Nat) (k : Nat) (vs : List jv) (σ : Nat → jcell) : Prop := cond (Nat.ble k 365) (rXflrrlrl N K n k vs σ) (rXflrrlrr N K n k vs σ)
noncomputable def rXflrrl (N : Int) (K : Nat → Nat) (n : Nat) (k : Nat) (vs : List jv) (σ : Nat → jcell) : Prop := cond (Nat.ble k 364) (rXflrrll N K n k vs σ) (rXflrrlr N K n k vs σ)
noncomputable def rXflrrrll (N : Int) (K : Nat → Nat) (n : Nat) (k : Nat) (vs : List jv) (σ : Nat → jcell) : Prop := cond (Nat.beq k 367) (rb_367 N K n vs σ) False
noncomputable def rXflrrrlr (N : Int) (K : Nat → Nat) (n : Nat) (k : Nat) (vs : List jv) (σ : Nat → jcell) : Prop := cond (Nat.beq k 368) (rb_368 N K n vs σ) False
noncomputable def rXflrrrl (N : Int) (K : Nat → Nat) (n : Nat) (k : Nat) (vs : List jv) (σ : Nat → jcell) : Prop := cond (Nat.ble k 367) (rXflrrrll N K n k vs σ) (rXflrrrlr N K n k vs σ)
noncomputable def rXflrrrrl (N : Int) (K : Nat → Nat) (n : Nat) (k : Nat) (vs : List jv) (σ : Nat → jcell) : Prop := cond (Nat.beq k 369) (rb_369 N K n vs σ) False
noncomputable def rXflrrrrr (N : Int) (K : Nat → Nat) (n : Nat) (k : Nat) (vs : List jv) (σ : Nat → jcell) : Prop := cond (Nat.beq k 370) (rb_370 N K n vs σ) False
noncomputable def rXflrrrr (N : Int) (K : Nat → Nat) (n : Nat) (k : Nat) (vs : List jv) (σ : Nat → jcell) : Prop := cond (Nat.ble k 369) (rXflrrrrl N K n k vs σ) (rXflrrrrr N K n k vs σ)
noncomputable def rXflrrr (N : Int) (K : Nat → Nat) (n : Nat) (k : Nat) (vs : List jv) (σ : Nat → jcell) : Prop := cond (Nat.ble k 368) (rXflrrrl N K n k vs σ) (rXflrrrr N K n k vs σ)
noncomputable def rXflrr (N : Int) (K : Nat → Nat) (n : Nat) (k : Nat) (vs : List jv) (σ : Nat → jcell) : Prop := cond (Nat.ble k 366) (rXflrrl N K n k vs σ) (rXflrrr N K n k vs σ)
noncomputable def rXflr (N : Int) (K : Nat → Nat) (n : Nat) (k : Nat) (vs : List jv) (σ : Nat → jcell) : Prop := cond (Nat.ble k 362) (rXflrl N K n k vs σ) (rXflrr N K n k vs σ)
noncomputable def rXfl (N : Int) (K : Nat → Nat) (n : Nat) (k : Nat) (vs : List jv) (σ : Nat → jcell) : Prop := cond (Nat.ble k 355) (rXfll N K n k vs σ) (rXflr N K n k vs σ)
noncomputable def rXfrllll (N : Int) (K : Nat → Nat) (n : Nat) (k : Nat) (vs : List jv) (σ : Nat → jcell) : Prop := cond (Nat.beq k 371) (rb_371 N K n vs σ) False
noncomputable def rXfrlllrl (N : Int) (K : Nat → Nat) (n : Nat) (k : Nat) (vs : List jv) (σ : Nat → jcell) : Prop := cond (Nat.beq k 372) (rb_372 N K n vs σ) False
noncomputable def rXfrlllrr (N : Int) (K : Nat → Nat) (n : Nat) (k : Nat) (vs : List jv) (σ : Nat → jcell) : Prop := cond (Nat.beq k 373) (rb_373 N K n vs σ) False
noncomputable def rXfrlllr (N : Int) (K : Nat → Nat) (n : Nat) (k : Nat) (vs : List jv) (σ : Nat → jcell) : Prop := cond (Nat.ble k 372) (rXfrlllrl N K n k vs σ) (rXfrlllrr N K n k vs σ)
noncomputable def rXfrlll (N : Int) (K : Nat → Nat) (n : Nat) (k : Nat) (vs : List jv) (σ : Nat → jcell) : Prop := cond (Nat.ble k 371) (rXfrllll N K n k vs σ) (rXfrlllr N K n k vs σ)
noncomputable def rXfrllrll (N : Int) (K : Nat → Nat) (n : Nat) (k : Nat) (vs : List jv) (σ : Nat → jcell) : Prop := cond (Nat.beq k 374) (rb_374 N K n vs σ) False
noncomputable def rXfrllrlr (N : Int) (K : Nat → Nat) (n : Nat) (k : Nat) (vs : List jv) (σ : Nat → jcell) : Prop := cond (Nat.beq k 375) (rb_375 N K n vs σ) False
noncomputable def rXfrllrl (N : Int) (K : Nat → Nat) (n : Nat) (k : Nat) (vs : List jv) (σ : Nat → jcell) : Prop := cond (Nat.ble k 374) (rXfrllrll N K n k vs σ) (rXfrllrlr N K n k vs σ)
noncomputable def rXfrllrrl (N : Int) (K : Nat → Nat) (n : Nat) (k : Nat) (vs : List jv) (σ : Nat → jcell) : Prop := cond (Nat.beq k 376) (rb_376 N K n vs σ) False
noncomputable def rXfrllrrr (N : Int) (K : Nat → Nat) (n : Nat) (k : Nat) (vs : List jv) (σ : Nat → jcell) : Prop := cond (Nat.beq k 377) (rb_377 N K n vs σ) False
noncomputable def rXfrllrr (N : Int) (K : Nat → Nat) (n : Nat) (k : Nat) (vs : List jv) (σ : Nat → jcell) : Prop := cond (Nat.ble k 376) (rXfrllrrl N K n k vs σ) (rXfrllrrr N K n k vs σ)
noncomputable def rXfrllr (N : Int) (K : Nat → Nat) (n : Nat) (k : Nat) (vs : List jv) (σ : Nat → jcell) : Prop := cond (Nat.ble k 375) (rXfrllrl N K n k vs σ) (rXfrllrr N K n k vs σ)
noncomputable def rXfrll (N : Int) (K : Nat → Nat) (n : Nat) (k : Nat) (vs : List jv) (σ : Nat → jcell) : Prop := cond (Nat.ble k 373) (rXfrlll N K n k vs σ) (rXfrllr N K n k vs σ)
noncomputable def rXfrlrll (N : Int) (K : Nat → Nat) (n : Nat) (k : Nat) (vs : List jv) (σ : Nat → jcell) : Prop := cond (Nat.beq k 378) (rb_378 N K n vs σ) False
noncomputable def rXfrlrlrl (N : Int) (K : Nat → Nat) (n : Nat) (k : Nat) (vs : List jv) (σ : Nat → jcell) : Prop := cond (Nat.beq k 379) (rb_379 N K n vs σ) False
noncomputable def rXfrlrlrr (N : Int) (K : Nat → Nat) (n : Nat) (k : Nat) (vs : List jv) (σ : Nat → jcell) : Prop := cond (Nat.beq k 380) (rb_380 N K n vs σ) False
noncomputable def rXfrlrlr (N : Int) (K : Nat → Nat) (n : Nat) (k : Nat) (vs : List jv) (σ : Nat → jcell) : Prop := cond (Nat.ble k 379) (rXfrlrlrl N K n k vs σ) (rXfrlrlrr N K n k vs σ)
noncomputable def rXfrlrl (N : Int) (K : Nat → Nat) (n : Nat) (k : Nat) (vs : List jv) (σ : Nat → jcell) : Prop := cond (Nat.ble k 378) (rXfrlrll N K n k vs σ) (rXfrlrlr N K n k vs σ)
noncomputable def rXfrlrrll (N : Int) (K : Nat → Nat) (n : Nat) (k : Nat) (vs : List jv) (σ : Nat → jcell) : Prop := cond (Nat.beq k 381) (rb_381 N K n vs σ) False
noncomputable def rXfrlrrlr (N : Int) (K : Nat → Nat) (n : Nat) (k : Nat) (vs : List jv) (σ : Nat → jcell) : Prop := cond (Nat.beq k 382) (rb_382 N K n vs σ) False
noncomputable def rXfrlrrl (N : Int) (K : Nat → Nat) (n : Nat) (k : Nat) (vs : List jv) (σ : Nat → jcell) : Prop := cond (Nat.ble k 381) (rXfrlrrll N K n k vs σ) (rXfrlrrlr N K n k vs σ)
noncomputable def rXfrlrrrl (N : Int) (K : Nat → Nat) (n : Nat) (k : Nat) (vs : List jv) (σ : Nat → jcell) : Prop := cond (Nat.beq k 383) (rb_383 N K n vs σ) False
noncomputable def rXfrlrrrr (N : Int) (K : Nat → Nat) (n : Nat) (k : Nat) (vs : List jv) (σ : Nat → jcell) : Prop := cond (Nat.beq k 384) (rb_384 N K n vs σ) False
noncomputable def rXfrlrrr (N : Int) (K : Nat → Nat) (n : Nat) (k : Nat) (vs : List jv) (σ : Nat → jcell) : Prop := cond (Nat.ble k 383) (rXfrlrrrl N K n k vs σ) (rXfrlrrrr N K n k vs σ)
noncomputable def rXfrlrr (N : Int) (K : Nat → Nat) (n : Nat) (k : Nat) (vs : List jv) (σ : Nat → jcell) : Prop := cond (Nat.ble k 382) (rXfrlrrl N K n k vs σ) (rXfrlrrr N K n k vs σ)
noncomputable def rXfrlr (N : Int) (K : Nat → Nat) (n : Nat) (k : Nat) (vs : List jv) (σ : Nat → jcell) : Prop := cond (Nat.ble k 380) (rXfrlrl N K n k vs σ) (rXfrlrr N K n k vs σ)
noncomputable def rXfrl (N : Int) (K : Nat → Nat) (n : Nat) (k : Nat) (vs : List jv) (σ : Nat → jcell) : Prop := cond (Nat.ble k 377) (rXfrll N K n k vs σ) (rXfrlr N K n k vs σ)
noncomputable def rXfrrlll (N : Int) (K : Nat → Nat) (n : Nat) (k : Nat) (vs : List jv) (σ : Nat → jcell) : Prop := cond (Nat.beq k 385) (rb_385 N K n vs σ) False
noncomputable def rXfrrllrl (N : Int) (K : Nat → Nat) (n : Nat) (k : Nat) (vs : List jv) (σ : Nat → jcell) : Prop := cond (Nat.beq k 386) (rb_386 N K n vs σ) False
noncomputable def rXfrrllrr (N : Int) (K : Nat → Nat) (n : Nat) (k : Nat) (vs : List jv) (σ : Nat → jcell) : Prop := cond (Nat.beq k 387) (rb_387 N K n vs σ) False
noncomputable def rXfrrllr (N : Int) (K : Nat → Nat) (n : Nat) (k : Nat) (vs : List jv) (σ : Nat → jcell) : Prop := cond (Nat.ble k 386) (rXfrrllrl N K n k vs σ) (rXfrrllrr N K n k vs σ)
noncomputable def rXfrrll (N : Int) (K : Nat → Nat) (n : Nat) (k : Nat) (vs : List jv) (σ : Nat → jcell) : Prop := cond (Nat.ble k 385) (rXfrrlll N K n k vs σ) (rXfrrllr N K n k vs σ)
noncomputable def rXfrrlrll (N : Int) (K : Nat → Nat) (n : Nat) (k : Nat) (vs : List jv) (σ : Nat → jcell) : Prop := cond (Nat.beq k 388) (rb_388 N K n vs σ) False
noncomputable def rXfrrlrlr (N : Int) (K : Nat → Nat) (n : Nat) (k : Nat) (vs : List jv) (σ : Nat → jcell) : Prop := cond (Nat.beq k 389) (rb_389 N K n vs σ) False
noncomputable def rXfrrlrl (N : Int) (K : Nat → Nat) (n : Nat) (k : Nat) (vs : List jv) (σ : Nat → jcell) : Prop := cond (Nat.ble k 388) (rXfrrlrll N K n k vs σ) (rXfrrlrlr N K n k vs σ)
noncomputable def rXfrrlrrl (N : Int) (K : Nat → Nat) (n : Nat) (k : Nat) (vs : List jv) (σ : Nat → jcell) : Prop := cond (Nat.beq k 390) (rb_390 N K n vs σ) False
noncomputable def rXfrrlrrr (N : Int) (K : Nat → Nat) (n : Nat) (k : Nat) (vs : List jv) (σ : Nat → jcell) : Prop := cond (Nat.beq k 391) (rb_391 N K n vs σ) False
noncomputable def rXfrrlrr (N : Int) (K : Nat → Nat) (n : Nat) (k : Nat) (vs : List jv) (σ : Nat → jcell) : Prop := cond (Nat.ble k 390) (rXfrrlrrl N K n k vs σ) (rXfrrlrrr N K n k vs σ)
noncomputable def rXfrrlr (N : Int) (K : Nat → Nat) (n : Nat) (k : Nat) (vs : List jv) (σ : Nat → jcell) : Prop := cond (Nat.ble k 389) (rXfrrlrl N K n k vs σ) (rXfrrlrr N K n k vs σ)
noncomputable def rXfrrl (N : Int) (K : Nat → Nat) (n : Nat) (k : Nat) (vs : List jv) (σ : Nat → jcell) : Prop := cond (Nat.ble k 387) (rXfrrll N K n k vs σ) (rXfrrlr N K n k vs σ)
noncomputable def rXfrrrlll (N : Int) (K : Nat → Nat) (n : Nat) (k : Nat) (vs : List jv) (σ : Nat → jcell) : Prop := cond (Nat.beq k 392) (rb_392 N K n vs σ) False
noncomputable def rXfrrrllr (N : Int) (K : Nat → Nat) (n : Nat) (k : Nat) (vs : List jv) (σ : Nat → jcell) : Prop := cond (Nat.beq k 393) (rb_393 N K n vs σ) False
noncomputable def rXfrrrll (N : Int) (K : Nat → Nat) (n : Nat) (k : Nat) (vs : List jv) (σ : Nat → jcell) : Prop := cond (Nat.ble k 392) (rXfrrrlll N K n k vs σ) (rXfrrrllr N K n k vs σ)
noncomputable def rXfrrrlrl (N : Int) (K : Nat → Nat) (n : Nat) (k : Nat) (vs : List jv) (σ : Nat → jcell) : Prop := cond (Nat.beq k 394) (rb_394 N K n vs σ) False
noncomputable def rXfrrrlrr (N : Int) (K : Nat → Nat) (n : Nat) (k : Nat) (vs : List jv) (σ : Nat → jcell) : Prop := cond (Nat.beq k 395) (rb_395 N K n vs σ) False
noncomputable def rXfrrrlr (N : Int) (K : Nat → Nat) (n : Nat) (k : Nat) (vs : List jv) (σ : Nat → jcell) : Prop := cond (Nat.ble k 394) (rXfrrrlrl N K n k vs σ) (rXfrrrlrr N K n k vs σ)
noncomputable def rXfrrrl (N : Int) (K : Nat → Nat) (n : Nat) (k : Nat) (vs : List jv) (σ : Nat → jcell) : Prop := cond (Nat.ble k 393) (rXfrrrll N K n k vs σ) (rXfrrrlr N K n k vs σ)
noncomputable def rXfrrrrll (N : Int) (K : Nat → Nat) (n : Nat) (k : Nat) (vs : List jv) (σ : Nat → jcell) : Prop := cond (Nat.beq k 396) (rb_396 N K n vs σ) False
noncomputable def rXfrrrrlr (N : Int) (K : Nat → Nat) (n : Nat) (k : Nat) (vs : List jv) (σ : Nat → jcell) : Prop := cond (Nat.beq k 397) (rb_397 N K n vs σ) False
noncomputable def rXfrrrrl (N : Int) (K : Nat → Nat) (n : Nat) (k : Nat) (vs : List jv) (σ : Nat → jcell) : Prop := cond (Nat.ble k 396) (rXfrrrrll N K n k vs σ) (rXfrrrrlr N K n k vs σ)
noncomputable def rXfrrrrrl (N : Int) (K : Nat → Nat) (n : Nat) (k : Nat) (vs : List jv) (σ : Nat → jcell) : Prop := cond (Nat.beq k 398) (rb_398 N K n vs σ) False
noncomputable def rXfrrrrrr (N : Int) (K : Nat → Nat) (n : Nat) (k : Nat) (vs : List jv) (σ : Nat → jcell) : Prop := cond (Nat.beq k 399) (rb_399 N K n vs σ) False
noncomputable def rXfrrrrr (N : Int) (K : Nat → Nat) (n : Nat) (k : Nat) (vs : List jv) (σ : Nat → jcell) : Prop := cond (Nat.ble k 398) (rXfrrrrrl N K n k vs σ) (rXfrrrrrr N K n k vs σ)
noncomputable def rXfrrrr (N : Int) (K : Nat → Nat) (n : Nat) (k : Nat) (vs : List jv) (σ : Nat → jcell) : Prop := cond (Nat.ble k 397) (rXfrrrrl N K n k vs σ) (rXfrrrrr N K n k vs σ)
noncomputable def rXfrrr (N : Int) (K : Nat → Nat) (n : Nat) (k : Nat) (vs : List jv) (σ : Nat → jcell) : Prop := cond (Nat.ble k 395) (rXfrrrl N K n k vs σ) (rXfrrrr N K n k vs σ)
noncomputable def rXfrr (N : Int) (K : Nat → Nat) (n : Nat) (k : Nat) (vs : List jv) (σ : Nat → jcell) : Prop := cond (Nat.ble k 391) (rXfrrl N K n k vs σ) (rXfrrr N K n k vs σ)
noncomputable def rXfr (N : Int) (K : Nat → Nat) (n : Nat) (k : Nat) (vs : List jv) (σ : Nat → jcell) : Prop := cond (Nat.ble k 384) (rXfrl N K n k vs σ) (rXfrr N K n k vs σ)
noncomputable def rXf (N : Int) (K : Nat → Nat) (n : Nat) (k : Nat) (vs : List jv) (σ : Nat → jcell) : Prop := cond (Nat.ble k 370) (rXfl N K n k vs σ) (rXfr N K n k vs σ)
noncomputable def rXglllll (N : Int) (K : Nat → Nat) (n : Nat) (p : rP) (k : Nat) (vs : List jv) (σ : Nat → jcell) : Prop := cond (Nat.beq k 450) (rb_450 N K n p vs σ) False
noncomputable def rXgllllr (N : Int) (K : Nat → Nat) (n : Nat) (p : rP) (k : Nat) (vs : List jv) (σ : Nat → jcell) : Prop := cond (Nat.beq k 451) (rb_451 N K n p vs σ) False
noncomputable def rXgllll (N : Int) (K : Nat → Nat) (n : Nat) (p : rP) (k : Nat) (vs : List jv) (σ : Nat → jcell) : Prop := cond (Nat.ble k 450) (rXglllll N K n p k vs σ) (rXgllllr N K n p k vs σ)
noncomputable def rXglllrl (N : Int) (K : Nat → Nat) (n : Nat) (p : rP) (k : Nat) (vs : List jv) (σ : Nat → jcell) : Prop := cond (Nat.beq k 452) (rb_452 N K n p vs σ) False
noncomputable def rXglllrrl (N : Int) (K : Nat → Nat) (n : Nat) (p : rP) (k : Nat) (vs : List jv) (σ : Nat → jcell) : Prop := cond (Nat.beq k 453) (rb_453 N K n p vs σ) False
noncomputable def rXglllrrr (N : Int) (K : Nat → Nat) (n : Nat) (p : rP) (k : Nat) (vs : List jv) (σ : Nat → jcell) : Prop := cond (Nat.beq k 454) (rb_454 N K n p vs σ) False
noncomputable def rXglllrr (N : Int) (K : Nat → Nat) (n : Nat) (p : rP) (k : Nat) (vs : List jv) (σ : Nat → jcell) : Prop := cond (Nat.ble k 453) (rXglllrrl N K n p k vs σ) (rXglllrrr N K n p k vs σ)
noncomputable def rXglllr (N : Int) (K : Nat → Nat) (n : Nat) (p : rP) (k : Nat) (vs : List jv) (σ : Nat → jcell) : Prop := cond (Nat.ble k 452) (rXglllrl N K n p k vs σ) (rXglllrr N K n p k vs σ)
noncomputable def rXglll (N : Int) (K : Nat → Nat) (n : Nat) (p : rP) (k : Nat) (vs : List jv) (σ : Nat → jcell) : Prop := cond (Nat.ble k 451) (rXgllll N K n p k vs σ) (rXglllr N K n p k vs σ)
noncomputable def rXgllrll (N : Int) (K : Nat → Nat) (n : Nat) (p : rP) (k : Nat) (vs : List jv) (σ : Nat → jcell) : Prop := cond (Nat.beq k 455) (rb_455 N K n p vs σ) False
noncomputable def rXgllrlrl (N : Int) (K : Nat → Nat) (n : Nat) (p : rP) (k : Nat) (vs : List jv) (σ : Nat → jcell) : Prop := cond (Nat.beq k 456) (rb_456 N K n p vs σ) False
noncomputable def rXgllrlrr (N : Int) (K : Nat → Nat) (n : Nat) (p : rP) (k : Nat) (vs : List jv) (σ : Nat → jcell) : Prop := cond (Nat.beq k 457) (rb_457 N K n p vs σ) False
noncomputable def rXgllrlr (N : Int) (K : Nat → Nat) (n : Nat) (p : rP) (k : Nat) (vs : List jv) (σ : Nat → jcell) : Prop := cond (Nat.ble k 456) (rXgllrlrl N K n p k vs σ) (rXgllrlrr N K n p k vs σ)
noncomputable def rXgllrl (N : Int) (K : Nat → Nat) (n : Nat) (p : rP) (k : Nat) (vs : List jv) (σ : Nat → jcell) : Prop := cond (Nat.ble k 455) (rXgllrll N K n p k vs σ) (rXgllrlr N K n p k vs σ)
noncomputable def rXgllrrl (N : Int) (K : Nat → Nat) (n : Nat) (p : rP) (k : Nat) (vs : List jv) (σ : Nat → jcell) : Prop := cond (Nat.beq k 458) (rb_458 N K n p vs σ) False
noncomputable def rXgllrrrl (N : Int) (K : Nat → Nat) (n : Nat) (p : rP) (k : Nat) (vs : List jv) (σ : Nat → jcell) : Prop := cond (Nat.beq k 459) (rb_459 N K n p vs σ) False
noncomputable def rXgllrrrr (N : Int) (K : Nat → Nat) (n : Nat) (p : rP) (k : Nat) (vs : List jv) (σ : Nat → jcell) : Prop := cond (Nat.beq k 460) (rb_460 N K n p vs σ) False
noncomputable def rXgllrrr (N : Int) (K : Nat → Nat) (n : Nat) (p : rP) (k : Nat) (vs : List jv) (σ : Nat → jcell) : Prop := cond (Nat.ble k 459) (rXgllrrrl N K n p k vs σ) (rXgllrrrr N K n p k vs σ)
noncomputable def rXgllrr (N : Int) (K : Nat → Nat) (n : Nat) (p : rP) (k : Nat) (vs : List jv) (σ : Nat → jcell) : Prop := cond (Nat.ble k 458) (rXgllrrl N K n p k vs σ) (rXgllrrr N K n p k vs σ)
noncomputable def rXgllr (N : Int) (K : Nat → Nat) (n : Nat) (p : rP) (k : Nat) (vs : List jv) (σ : Nat → jcell) : Prop := cond (Nat.ble k 457) (rXgllrl N K n p k vs σ) (rXgllrr N K n p k vs σ)
noncomputable def rXgll (N : Int) (K : Nat → Nat) (n : Nat) (p : rP) (k : Nat) (vs : List jv) (σ : Nat → jcell) : Prop := cond (Nat.ble k 454) (rXglll N K n p k vs σ) (rXgllr N K n p k vs σ)
noncomputable def rXglrlll (N : Int) (K : Nat → Nat) (n : Nat) (p : rP) (k : Nat) (vs : List jv) (σ : Nat → jcell) : Prop := cond (Nat.beq k 461) (rb_461 N K n p vs σ) False
noncomputable def rXglrllrl (N : Int) (K : Nat → Nat) (n : Nat) (p : rP) (k : Nat) (vs : List jv) (σ : Nat → jcell) : Prop := cond (Nat.beq k 462) (rb_462 N K n p vs σ) False
noncomputable def rXglrllrr (N : Int) (K : Nat → Nat) (n : Nat) (p : rP) (k : Nat) (vs : List jv) (σ : Nat → jcell) : Prop := cond (Nat.beq k 463) (rb_463 N K n p vs σ) False
noncomputable def rXglrllr (N : Int) (K : Nat → Nat) (n : Nat) (p : rP) (k : Nat) (vs : List jv) (σ : Nat → jcell) : Prop := cond (Nat.ble k 462) (rXglrllrl N K n p k vs σ) (rXglrllrr N K n p k vs σ)
noncomputable def rXglrll (N : Int) (K : Nat → Nat) (n : Nat) (p : rP) (k : Nat) (vs : List jv) (σ : Nat → jcell) : Prop := cond (Nat.ble k 461) (rXglrlll N K n p k vs σ) (rXglrllr N K n p k vs σ)
noncomputable def rXglrlrl (N : Int) (K : Nat → Nat) (n : Nat) (p : rP) (k : Nat) (vs : List jv) (σ : Nat → jcell) : Prop := cond (Nat.beq k 464) (rb_464 N K n p vs σ) False
noncomputable def rXglrlrrl (N : Int) (K : Nat → Nat) (n : Nat) (p : rP) (k : Nat) (vs : List jv) (σ : Nat → jcell) : Prop := cond (Nat.beq k 465) (rb_465 N K n p vs σ) False
noncomputable def rXglrlrrr (N : Int) (K : Nat → Nat) (n : Nat) (p : rP) (k : Nat) (vs : List jv) (σ : Nat → jcell) : Prop := cond (Nat.beq k 466) (rb_466 N K n p vs σ) False
noncomputable def rXglrlrr (N : Int) (K : Nat → Nat) (n : Nat) (p : rP) (k : Nat) (vs : List jv) (σ : Nat → jcell) : Prop := cond (Nat.ble k 465) (rXglrlrrl N K n p k vs σ) (rXglrlrrr N K n p k vs σ)
noncomputable def rXglrlr (N : Int) (K : Nat → Nat) (n : Nat) (p : rP) (k : Nat) (vs : List jv) (σ : Nat → jcell) : Prop := cond (Nat.ble k 464) (rXglrlrl N K n p k vs σ) (rXglrlrr N K n p k vs σ)
noncomputable def rXglrl (N : Int) (K : Nat → Nat) (n : Nat) (p : rP) (k : Nat) (vs : List jv) (σ : Nat → jcell) : Prop := cond (Nat.ble k 463) (rXglrll N K n p k vs σ) (rXglrlr N K n p k vs σ)
noncomputable def rXglrrll (N : Int) (K : Nat → Nat) (n : Nat) (p : rP) (k : Nat) (vs : List jv) (σ : Nat → jcell) : Prop := cond (Nat.beq k 468) (rb_468 N K n p vs σ) False
noncomputable def rXglrrlrl (N : Int) (K : Nat → Nat) (n : Nat) (p : rP) (k : Nat) (vs : List jv) (σ : Nat → jcell) : Prop := cond (Nat.beq k 469) (rb_469 N K n p vs σ) False
noncomputable def rXglrrlrr (N : Int) (K : Nat → Nat) (n : Nat) (p : rP) (k : Nat) (vs : List jv) (σ : Nat → jcell) : Prop := cond (Nat.beq k 470) (rb_470 N K n p vs σ) False
noncomputable def rXglrrlr (N : Int) (K : Nat → Nat) (n : Nat) (p : rP) (k : Nat) (vs : List jv) (σ : Nat → jcell) : Prop := cond (Nat.ble k 469) (rXglrrlrl N K n p k vs σ) (rXglrrlrr N K n p k vs σ)
noncomputable def rXglrrl (N : Int) (K : Nat → Nat) (n : Nat) (p : rP) (k : Nat) (vs : List jv) (σ : Nat → jcell) : Prop := cond (Nat.ble k 468) (rXglrrll N K n p k vs σ) (rXglrrlr N K n p k vs σ)
noncomputable def rXglrrrl (N : Int) (K : Nat → Nat) (n : Nat) (p : rP) (k : Nat) (vs : List jv) (σ : Nat → jcell) : Prop := cond (Nat.beq k 471) (rb_471 N K n p vs σ) False
noncomputable def rXglrrrrl (N : Int) (K : Nat → Nat) (n : Nat) (p : rP) (k : Nat) (vs : List jv) (σ : Nat → jcell) : Prop := cond (Nat.beq k 472) (rb_472 N K n p vs σ) False
noncomputable def rXglrrrrr (N : Int) (K : Nat → Nat) (n : Nat) (p : rP) (k : Nat) (vs : List jv) (σ : Nat → jcell) : Prop := cond (Nat.beq k 473) (rb_473 N K n p vs σ) False
noncomputable def rXglrrrr (N : Int) (K : Nat → Nat) (n : Nat) (p : rP) (k : Nat) (vs : List jv) (σ : Nat → jcell) : Prop := cond (Nat.ble k 472) (rXglrrrrl N K n p k vs σ) (rXglrrrrr N K n p k vs σ)
noncomputable def rXglrrr (N : Int) (K : Nat → Nat) (n : Nat) (p : rP) (k : Nat) (vs : List jv) (σ : Nat → jcell) : Prop := cond (Nat.ble k 471) (rXglrrrl N K n p k vs σ) (rXglrrrr N K n p k vs σ)
noncomputable def rXglrr (N : Int) (K : Nat → Nat) (n : Nat) (p : rP) (k : Nat) (vs : List jv) (σ : Nat → jcell) : Prop := cond (Nat.ble k 470) (rXglrrl N K n p k vs σ) (rXglrrr N K n p k vs σ)
noncomputable def rXglr (N : Int) (K : Nat → Nat) (n : Nat) (p : rP) (k : Nat) (vs : List jv) (σ : Nat → jcell) : Prop := cond (Nat.ble k 466) (rXglrl N K n p k vs σ) (rXglrr N K n p k vs σ)
noncomputable def rXgl (N : Int) (K : Nat → Nat) (n : Nat) (p : rP) (k : Nat) (vs : List jv) (σ : Nat → jcell) : Prop := cond (Nat.ble k 460) (rXgll N K n p k vs σ) (rXglr N K n p k vs σ)
noncomputable def rXgrllll (N : Int) (K : Nat → Nat) (n : Nat) (p : rP) (k : Nat) (vs : List jv) (σ : Nat → jcell) : Prop := cond (Nat.beq k 474) (rb_474 N K n p vs σ) False
noncomputable def rXgrlllr (N : Int) (K : Nat → Nat) (n : Nat) (p : rP) (k : Nat) (vs : List jv) (σ : Nat → jcell) : Prop := cond (Nat.beq k 475) (rb_475 N K n p vs σ) False
noncomputable def rXgrlll (N : Int) (K : Nat → Nat) (n : Nat) (p : rP) (k : Nat) (vs : List jv) (σ : Nat → jcell) : Prop := cond (Nat.ble k 474) (rXgrllll N K n p k vs σ) (rXgrlllr N K n p k vs σ)
noncomputable def rXgrllrl (N : Int) (K : Nat → Nat) (n : Nat) (p : rP) (k : Nat) (vs : List jv) (σ : Nat → jcell) : Prop := cond (Nat.beq k 476) (rb_476 N K n p vs σ) False
noncomputable def rXgrllrrl (N : Int) (K : Nat → Nat) (n : Nat) (p : rP) (k : Nat) (vs : List jv) (σ : Nat → jcell) : Prop := cond (Nat.beq k 477) (rb_477 N K n p vs σ) False
noncomputable def rXgrllrrr (N : Int) (K : Nat → Nat) (n : Nat) (p : rP) (k : Nat) (vs : List jv) (σ : Nat → jcell) : Prop := cond (Nat.beq k 478) (rb_478 N K n p vs σ) False
noncomputable def rXgrllrr (N : Int) (K : Nat → Nat) (n : Nat) (p : rP) (k : Nat) (vs : List jv) (σ : Nat → jcell) : Prop := cond (Nat.ble k 477) (rXgrllrrl N K n p k vs σ) (rXgrllrrr N K n p k vs σ)
noncomputable def rXgrllr (N : Int) (K : Nat → Nat) (n : Nat) (p : rP) (k : Nat) (vs : List jv) (σ : Nat → jcell) : Prop := cond (Nat.ble k 476) (rXgrllrl N K n p k vs σ) (rXgrllrr N K n p k vs σ)
noncomputable def rXgrll (N : Int) (K : Nat → Nat) (n : Nat) (p : rP) (k : Nat) (vs : List jv) (σ : Nat → jcell) : Prop := cond (Nat.ble k 475) (rXgrlll N K n p k vs σ) (rXgrllr N K n p k vs σ)
noncomputable def rXgrlrll (N : Int) (K : Nat → Nat) (n : Nat) (p : rP) (k : Nat) (vs : List jv) (σ : Nat → jcell) : Prop := cond (Nat.beq k 479) (rb_479 N K n p vs σ) False
noncomputable def rXgrlrlrl (N : Int) (K : Nat → Nat) (n : Nat) (p : rP) (k : Nat) (vs : List jv) (σ : Nat → jcell) : Prop := cond (Nat.beq k 480) (rb_480 N K n p vs σ) False
noncomputable def rXgrlrlrr (N : Int) (K : Nat → Nat) (n : Nat) (p : rP) (k : Nat) (vs : List jv) (σ : Nat → jcell) : Prop := cond (Nat.beq k 481) (rb_481 N K n p vs σ) False
noncomputable def rXgrlrlr (N : Int) (K : Nat → Nat) (n : Nat) (p : rP) (k : Nat) (vs : List jv) (σ : Nat → jcell) : Prop := cond (Nat.ble k 480) (rXgrlrlrl N K n p k vs σ) (rXgrlrlrr N K n p k vs σ)
noncomputable def rXgrlrl (N : Int) (K : Nat → Nat) (n : Nat) (p : rP) (k : Nat) (vs : List jv) (σ : Nat → jcell) : Prop := cond (Nat.ble k 479) (rXgrlrll N K n p k vs σ) (rXgrlrlr N K n p k vs σ)
noncomputable def rXgrlrrl (N : Int) (K : Nat → Nat) (n : Nat) (p : rP) (k : Nat) (vs : List jv) (σ : Nat → jcell) : Prop := cond (Nat.beq k 482) (rb_482 N K n p vs σ) False
noncomputable def rXgrlrrrl (N : Int) (K : Nat → Nat) (n : Nat) (p : rP) (k : Nat) (vs : List jv) (σ : Nat → jcell) : Prop := cond (Nat.beq k 483) (rb_483 N K n p vs σ) False
noncomputable def rXgrlrrrr (N : Int) (K : Nat → Nat) (n : Nat) (p : rP) (k : Nat) (vs : List jv) (σ : Nat → jcell) : Prop := cond (Nat.beq k 484) (rb_484 N K n p vs σ) False
noncomputable def rXgrlrrr (N : Int) (K : Nat → Nat) (n : Nat) (p : rP) (k : Nat) (vs : List jv) (σ : Nat → jcell) : Prop := cond (Nat.ble k 483) (rXgrlrrrl N K n p k vs σ) (rXgrlrrrr N K n p k vs σ)
noncomputable def rXgrlrr (N : Int) (K : Nat → Nat) (n : Nat) (p : rP) (k : Nat) (vs : List jv) (σ : Nat → jcell) : Prop := cond (Nat.ble k 482) (rXgrlrrl N K n p k vs σ) (rXgrlrrr N K n p k vs σ)
noncomputable def rXgrlr (N : Int) (K : Nat → Nat) (n : Nat) (p : rP) (k : Nat) (vs : List jv) (σ : Nat → jcell) : Prop := cond (Nat.ble k 481) (rXgrlrl N K n p k vs σ) (rXgrlrr N K n p k vs σ)
noncomputable def rXgrl (N : Int) (K : Nat → Nat) (n : Nat) (p : rP) (k : Nat) (vs : List jv) (σ : Nat → jcell) : Prop := cond (Nat.ble k 478) (rXgrll N K n p k vs σ) (rXgrlr N K n p k vs σ)
noncomputable def rXgrrlll (N : Int) (K : Nat → Nat) (n : Nat) (p : rP) (k : Nat) (vs : List jv) (σ : Nat → jcell) : Prop := cond (Nat.beq k 485) (rb_485 N K n p vs σ) False
noncomputable def rXgrrllrl (N : Int) (K : Nat → Nat) (n : Nat) (p : rP) (k : Nat) (vs : List jv) (σ : Nat → jcell) : Prop := cond (Nat.beq k 486) (rb_486 N K n p vs σ) False
noncomputable def rXgrrllrr (N : Int) (K : Nat → Nat) (n : Nat) (p : rP) (k : Nat) (vs : List jv) (σ : Nat → jcell) : Prop := cond (Nat.beq k 487) (rb_487 N K n p vs σ) False
noncomputable def rXgrrllr (N : Int) (K : Nat → Nat) (n : Nat) (p : rP) (k : Nat) (vs : List jv) (σ : Nat → jcell) : Prop := cond (Nat.ble k 486) (rXgrrllrl N K n p k vs σ) (rXgrrllrr N K n p k vs σ)
noncomputable def rXgrrll (N : Int) (K : Nat → Nat) (n : Nat) (p : rP) (k : Nat) (vs : List jv) (σ : Nat → jcell) : Prop := cond (Nat.ble k 485) (rXgrrlll N K n p k vs σ) (rXgrrllr N K n p k vs σ)
noncomputable def rXgrrlrl (N : Int) (K : Nat → Nat) (n : Nat) (p : rP) (k : Nat) (vs : List jv) (σ : Nat → jcell) : Prop := cond (Nat.beq k 488) (rb_488 N K n p vs σ) False
noncomputable def rXgrrlrrl (N : Int) (K : Nat → Nat) (n : Nat) (p : rP) (k : Nat) (vs : List jv) (σ : Nat → jcell) : Prop := cond (Nat.beq k 489) (rb_489 N K n p vs σ) False
noncomputable def rXgrrlrrr (N : Int) (K : Nat → Nat) (n : Nat) (p : rP) (k : Nat) (vs : List jv) (σ : Nat → jcell) : Prop := cond (Nat.beq k 490) (rb_490 N K n p vs σ) False
noncomputable def rXgrrlrr (N : Int) (K : Nat → Nat) (n : Nat) (p : rP) (k : Nat) (vs : List jv) (σ : Nat → jcell) : Prop := cond (Nat.ble k 489) (rXgrrlrrl N K n p k vs σ) (rXgrrlrrr N K n p k vs σ)
noncomputable def rXgrrlr (N : Int) (K : Nat → Nat) (n : Nat) (p : rP) (k : Nat) (vs : List jv) (σ : Nat → jcell) : Prop := cond (Nat.ble k 488) (rXgrrlrl N K n p k vs σ) (rXgrrlrr N K n p k vs σ)
noncomputable def rXgrrl (N : Int) (K : Nat → Nat) (n : Nat) (p : rP) (k : Nat) (vs : List jv) (σ : Nat → jcell) : Prop := cond (Nat.ble k 487) (rXgrrll N K n p k vs σ) (rXgrrlr N K n p k vs σ)
noncomputable def rXgrrrll (N : Int) (K : Nat → Nat) (n : Nat) (p : rP) (k : Nat) (vs : List jv) (σ : Nat → jcell) : Prop := cond (Nat.beq k 491) (rb_491 N K n p vs σ) False
noncomputable def rXgrrrlrl (N : Int) (K : Nat → Nat) (n : Nat) (p : rP) (k : Nat) (vs : List jv) (σ : Nat → jcell) : Prop := cond (Nat.beq k 492) (rb_492 N K n p vs σ) False
noncomputable def rXgrrrlrr (N : Int) (K : Nat → Nat) (n : Nat) (p : rP) (k : Nat) (vs : List jv) (σ : Nat → jcell) : Prop := cond (Nat.beq k 493) (rb_493 N K n p vs σ) False
noncomputable def rXgrrrlr (N : Int) (K : Nat → Nat) (n : Nat) (p : rP) (k : Nat) (vs : List jv) (σ : Nat → jcell) : Prop := cond (Nat.ble k 492) (rXgrrrlrl N K n p k vs σ) (rXgrrrlrr N K n p k vs σ)
noncomputable def rXgrrrl (N : Int) (K : Nat → Nat) (n : Nat) (p : rP) (k : Nat) (vs : List jv) (σ : Nat → jcell) : Prop := cond (Nat.ble k 491) (rXgrrrll N K n p k vs σ) (rXgrrrlr N K n p k vs σ)
noncomputable def rXgrrrrl (N : Int) (K : Nat → Nat) (n : Nat) (p : rP) (k : Nat) (vs : List jv) (σ : Nat → jcell) : Prop := cond (Nat.beq k 494) (rb_494 N K n p vs σ) False
noncomputable def rXgrrrrrl (N : Int) (K : Nat → Nat) (n : Nat) (p : rP) (k : Nat) (vs : List jv) (σ : Nat → jcell) : Prop := cond (Nat.beq k 495) (rb_495 N K n p vs σ) False
noncomputable def rXgrrrrrr (N : Int) (K : Nat → Nat) (n : Nat) (p : rP) (k : Nat) (vs : List jv) (σ : Nat → jcell) : Prop := cond (Nat.beq k 496) (rb_496 N K n p vs σ) False
noncomputable def rXgrrrrr (N : Int) (K : Nat → Nat) (n : Nat) (p : rP) (k : Nat) (vs : List jv) (σ : Nat → jcell) : Prop := cond (Nat.ble k 495) (rXgrrrrrl N K n p k vs σ) (rXgrrrrrr N K n p k vs σ)
noncomputable def rXgrrrr (N : Int) (K : Nat → Nat) (n : Nat) (p : rP) (k : Nat) (vs : List jv) (σ : Nat → jcell) : Prop := cond (Nat.ble k 494) (rXgrrrrl N K n p k vs σ) (rXgrrrrr N K n p k vs σ)
noncomputable def rXgrrr (N : Int) (K : Nat → Nat) (n : Nat) (p : rP) (k : Nat) (vs : List jv) (σ : Nat → jcell) : Prop := cond (Nat.ble k 493) (rXgrrrl N K n p k vs σ) (rXgrrrr N K n p k vs σ)
noncomputable def rXgrr (N : Int) (K : Nat → Nat) (n : Nat) (p : rP) (k : Nat) (vs : List jv) (σ : Nat → jcell) : Prop := cond (Nat.ble k 490) (rXgrrl N K n p k vs σ) (rXgrrr N K n p k vs σ)
noncomputable def rXgr (N : Int) (K : Nat → Nat) (n : Nat) (p : rP) (k : Nat) (vs : List jv) (σ : Nat → jcell) : Prop := cond (Nat.ble k 484) (rXgrl N K n p k vs σ) (rXgrr N K n p k vs σ)
noncomputable def rXg (N : Int) (K : Nat → Nat) (n : Nat) (p : rP) (k : Nat) (vs : List jv) (σ : Nat → jcell) : Prop := cond (Nat.ble k 473) (rXgl N K n p k vs σ) (rXgr N K n p k vs σ)
noncomputable def rB3 (N : Int) (K : Nat → Nat) (n : Nat) (p : rP) (k : Nat) (vs : List jv) (σ : Nat → jcell) : Prop := cond (Nat.ble 1000 k) False (cond (Nat.ble 450 k) (rXg N K n p k vs σ) (cond (Nat.ble 342 k) (cond (Nat.ble k 399) (rXf N K n k vs σ) (rB2 K n p k vs σ)) (rB2 K n p k vs σ)))
noncomputable abbrev rH (N : Int) (K : Nat → Nat) (n : Nat) : aFt rP := rFF (rB3 N K n) rS1
theorem rNb {a b : Nat} (h : ¬ a ≤ b) : Nat.ble a b = false := Bool.eq_false_iff.mpr (fun h9 => h (Nat.le_of_ble_eq_true h9))
theorem rB3_fre (N : Int) (K : Nat → Nat) (n : Nat) (p p' : rP) (k : Nat) (vs : List jv) (σ : Nat → jcell) (h1 : 100 ≤ k) (h2 : k < 400) (h : rB3 N K n p k vs σ) : rB3 N K n p' k vs σ := by
  unfold rB3 at h ⊢
  rw [rNb (a := 1000) (b := k) (by omega), rNb (a := 450) (b := k) (by omega), show Nat.ble k 399 = true from Nat.ble_eq_true_of_le (by omega)] at h ⊢
  cases c : Nat.ble 342 k with
  | true => rw [c] at h; exact h
  | false => rw [c] at h; exact rB2_fre K n p p' k vs σ h1 h2 h
theorem rB3_hi (N : Int) (K : Nat → Nat) (n : Nat) (p : rP) (k : Nat) (vs : List jv) (σ : Nat → jcell) (h1 : 1000 ≤ k) (h : rB3 N K n p k vs σ) : False := by
  unfold rB3 at h
  rw [show Nat.ble 1000 k = true from Nat.ble_eq_true_of_le h1] at h
  exact h
theorem rH_shf (N : Int) (K : Nat → Nat) (n : Nat) : aShf (rH N K n) (rSh rS1) := rF_sh (rB3_fre N K n) (rB3_hi N K n)
noncomputable def rOk3 (k : Nat) : Bool := Nat.ble k 341 || (Nat.ble 400 k && Nat.ble k 449)
theorem rOk3_e {k : Nat} (h : rOk3 k = true) : k ≤ 341 ∨ (400 ≤ k ∧ k ≤ 449) := by
  unfold rOk3 at h
  rw [Bool.or_eq_true, Bool.and_eq_true] at h
  rcases h with h | ⟨h, h'⟩
  · exact Or.inl (Nat.le_of_ble_eq_true h)
  · exact Or.inr ⟨Nat.le_of_ble_eq_true h, Nat.le_of_ble_eq_true h'⟩
theorem rB3_o {N : Int} {K : Nat → Nat} {n : Nat} {p : rP} {k : Nat} {vs : List jv} {σ : Nat → jcell} (h : rOk3 k = true) : rB3 N K n p k vs σ ↔ rB2 K n p k vs σ := by
  have h2 := rOk3_e h
  unfold rB3
  rw [rNb (a := 1000) (b := k) (by omega), rNb (a := 450) (b := k) (by omega)]
  rcases h2 with h2 | h2
  · rw [rNb (a := 342) (b := k) (by omega)]
    exact Iff.rfl
  · rw [show Nat.ble 342 k = true from Nat.ble_eq_true_of_le (by omega), rNb (a := k) (b := 399) (by omega)]
    exact Iff.rfl
noncomputable def rOkr3 (r : Nat) : Bool := if r < 65536 then rOk3 (r / 16) else if r < 131072 then rOk3 ((r - 65539) / 16) else rOk3 ((r % 131072 - 2) / 16)
theorem rGH {N : Int} {K : Nat → Nat} {n : Nat} {p : rP} {r : Nat} {vs : List jv} {σ : Nat → jcell} (h : rOkr3 r = true) : rG K n p r vs σ ↔ rH N K n p r vs σ := by
  unfold rOkr3 at h
  unfold rG rH rFF
  split
  next c =>
    rw [if_pos c] at h
    exact (rB3_o h).symm
  next c =>
    rw [if_neg c] at h
    split
    next c2 =>
      rw [if_pos c2] at h
      split
      next =>
        split
        · exact (rB3_o h).symm
        · exact (rB3_o h).symm
        · exact Iff.rfl
      next => exact Iff.rfl
    next c2 =>
      rw [if_neg c2] at h
      split
      next =>
        split
        · exact (rB3_o h).symm
        · exact Iff.rfl
      next => exact Iff.rfl
theorem rH_of {N : Int} {K : Nat → Nat} {n : Nat} {JX : (Nat → jcell) → Prop} {G : aCon} (h : (G.2.2.2.1.2.2.2.2.all (fun q => rOkr3 q.1) && G.2.2.2.2.1.2.2.1.2.2.2.all (fun q => rOkr3 q.1)) = true) (hg : aGho (rG K n) fa_T K n JX G) : aGho (rH N K n) fa_T K n JX G := by
  rw [Bool.and_eq_true, List.all_eq_true, List.all_eq_true] at h
  intro p σ ρ hH hX hA hM
  obtain ⟨m1, m2, m3, m4⟩ := hM
  obtain ⟨p', xs, e1, e2, ⟨n1, n2, n3, n4⟩, e3⟩ := hg p σ ρ hH hX hA ⟨m1, m2, m3, fun q hq => by
    obtain ⟨w, a1, a2⟩ := m4 q hq
    exact ⟨w, a1, (rGH (h.1 q hq)).mpr a2⟩⟩
  exact ⟨p', xs, e1, e2, ⟨n1, n2, n3, fun q hq => by
    obtain ⟨w, a1, a2⟩ := n4 q hq
    exact ⟨w, a1, (rGH (h.2 q hq)).mp a2⟩⟩, e3⟩
theorem ro3_22 {N : Int} {K : Nat → Nat} {n : Nat} {p : rP} {x0 : Nat} {σ : Nat → jcell} : rB3 N K n p 22 [rR x0] σ ↔ (p.2 = none ∧ rRX K n σ x0 p.1) := (rB3_o (k := 22) rfl).trans ro2_22
theorem ro3_24 {N : Int} {K : Nat → Nat} {n : Nat} {p : rP}  {σ : Nat → jcell} : rB3 N K n p 24 [] σ ↔ (rGd p.1) := (rB3_o (k := 24) rfl).trans ro2_24
theorem ro3_25 {N : Int} {K : Nat → Nat} {n : Nat} {p : rP} {x0 : Int32} {σ : Nat → jcell} : rB3 N K n p 25 [rI x0] σ ↔ (rLm p.1 x0.toInt) := (rB3_o (k := 25) rfl).trans ro2_25
theorem ro3_67 {N : Int} {K : Nat → Nat} {n : Nat} {p : rP} {x0 : Int32} {σ : Nat → jcell} : rB3 N K n p 67 [rI x0] σ ↔ (x0.toInt = p.1.2.1) := (rB3_o (k := 67) rfl).trans ro2_67
theorem ro3_95 {N : Int} {K : Nat → Nat} {n : Nat} {p : rP}  {σ : Nat → jcell} : rB3 N K n p 95 [] σ ↔ (∃ m, rLm p.1 m ∧ rGd (rMk p.1 m)) := (rB3_o (k := 95) rfl).trans ro2_95
theorem ro3_96 {N : Int} {K : Nat → Nat} {n : Nat} {p : rP} {x0 : Nat} {x1 : Int32} {σ : Nat → jcell} : rB3 N K n p 96 [rR x0, rI x1] σ ↔ (∃ g a, (rRw K n σ x0 105 4 g ∨ rRw K n σ x0 107 4 g) ∧ rLn a p g 0 x1.toInt.toNat) := (rB3_o (k := 96) rfl).trans ro2_96
theorem ro3_97_4 {N : Int} {K : Nat → Nat} {n : Nat} {p : rP} {x0 : Nat} {x1 : Int32} {x2 : Int32} {x3 : Int32} {σ : Nat → jcell} : rB3 N K n p 97 [rR x0, rI x1, rI x2, rI x3] σ ↔ (x3.toInt = 1 → ∃ g, rRo K n σ x0 88 33 107 4 g ∧ rLn x0 p g x1.toInt.toNat x2.toInt.toNat) := (rB3_o (k := 97) rfl).trans ro2_97_4
theorem ro3_100 {N : Int} {K : Nat → Nat} {n : Nat} {p : rP} {x0 : jv} {x1 : jv} {x2 : jv} {σ : Nat → jcell} : rB3 N K n p 100 [x0, x1, x2] σ ↔ (aOv 0 x0 x1 x2) := (rB3_o (k := 100) rfl).trans ro2_100
theorem ro3_102 {N : Int} {K : Nat → Nat} {n : Nat} {p : rP} {x0 : jv} {x1 : jv} {x2 : jv} {σ : Nat → jcell} : rB3 N K n p 102 [x0, x1, x2] σ ↔ (aOv 2 x0 x1 x2) := (rB3_o (k := 102) rfl).trans ro2_102
theorem ro3_104 {N : Int} {K : Nat → Nat} {n : Nat} {p : rP} {x0 : jv} {x1 : jv} {x2 : jv} {σ : Nat → jcell} : rB3 N K n p 104 [x0, x1, x2] σ ↔ (aOv 4 x0 x1 x2) := (rB3_o (k := 104) rfl).trans ro2_104
theorem ro3_105 {N : Int} {K : Nat → Nat} {n : Nat} {p : rP} {x0 : jv} {x1 : jv} {x2 : jv} {σ : Nat → jcell} : rB3 N K n p 105 [x0, x1, x2] σ ↔ (aOv 5 x0 x1 x2) := (rB3_o (k := 105) rfl).trans ro2_105
theorem ro3_106 {N : Int} {K : Nat → Nat} {n : Nat} {p : rP} {x0 : jv} {x1 : jv} {x2 : jv} {σ : Nat → jcell} : rB3 N K n p 106 [x0, x1, x2] σ ↔ (aOv 6 x0 x1 x2) := (rB3_o (k := 106) rfl).trans ro2_106
theorem ro3_108 {N : Int} {K : Nat → Nat} {n : Nat} {p : rP} {x0 : jv} {x1 : jv} {x2 : jv} {σ : Nat → jcell} : rB3 N K n p 108 [x0, x1, x2] σ ↔ (aOv 8 x0 x1 x2) := (rB3_o (k := 108) rfl).trans ro2_108
theorem ro3_117 {N : Int} {K : Nat → Nat} {n : Nat} {p : rP} {x0 : jv} {x1 : jv} {x2 : jv} {σ : Nat → jcell} : rB3 N K n p 117 [x0, x1, x2] σ ↔ (aOv 17 x0 x1 x2) := (rB3_o (k := 117) rfl).trans ro2_117
theorem ro3_120 {N : Int} {K : Nat → Nat} {n : Nat} {p : rP} {x0 : Int32} {x1 : Int32} {x2 : Int32} {x3 : Int32} {σ : Nat → jcell} : rB3 N K n p 120 [rI x0, rI x1, rI x2, rI x3] σ ↔ (x3.toInt = rSp x0.toInt x1.toInt x2.toInt) := (rB3_o (k := 120) rfl).trans ro2_120
theorem ro3_147 {N : Int} {K : Nat → Nat} {n : Nat} {p : rP} {x0 : Int32} {x1 : Int32} {σ : Nat → jcell} : rB3 N K n p 147 [rI x0, rI x1] σ ↔ (x1.toInt = x0.toInt % 8) := (rB3_o (k := 147) rfl).trans ro2_147
theorem ro3_157 {N : Int} {K : Nat → Nat} {n : Nat} {p : rP} {x0 : Int32} {x1 : Int32} {σ : Nat → jcell} : rB3 N K n p 157 [rI x0, rI x1] σ ↔ (x1.toInt = x0.toInt / 8) := (rB3_o (k := 157) rfl).trans ro2_157
theorem ro3_170 {N : Int} {K : Nat → Nat} {n : Nat} {p : rP} {x0 : Nat} {x1 : Int32} {σ : Nat → jcell} : rB3 N K n p 170 [rR x0, rI x1] σ ↔ (rPG0 K n σ x0 x1.toInt) := (rB3_o (k := 170) rfl).trans ro2_170
theorem ro3_171 {N : Int} {K : Nat → Nat} {n : Nat} {p : rP} {x0 : Nat} {x1 : Int32} {σ : Nat → jcell} : rB3 N K n p 171 [rR x0, rI x1] σ ↔ (rPG0 K n σ x0 (x1.toInt + 1)) := (rB3_o (k := 171) rfl).trans ro2_171
theorem ro3_184 {N : Int} {K : Nat → Nat} {n : Nat} {p : rP} {x0 : Nat} {x1 : Int32} {σ : Nat → jcell} : rB3 N K n p 184 [rR x0, rI x1] σ ↔ (∃ g, rRw K n σ x0 105 4 g ∧ (g 0).toInt = x1.toInt) := (rB3_o (k := 184) rfl).trans ro2_184
theorem ro3_185 {N : Int} {K : Nat → Nat} {n : Nat} {p : rP} {x0 : Nat} {x1 : Int32} {σ : Nat → jcell} : rB3 N K n p 185 [rR x0, rI x1] σ ↔ (∃ g, rRw K n σ x0 105 4 g ∧ (g 1).toInt = x1.toInt) := (rB3_o (k := 185) rfl).trans ro2_185
theorem ro3_186 {N : Int} {K : Nat → Nat} {n : Nat} {p : rP} {x0 : Nat} {x1 : Int32} {σ : Nat → jcell} : rB3 N K n p 186 [rR x0, rI x1] σ ↔ (∃ g, rRw K n σ x0 105 4 g ∧ (g 2).toInt = x1.toInt) := (rB3_o (k := 186) rfl).trans ro2_186
theorem ro3_187 {N : Int} {K : Nat → Nat} {n : Nat} {p : rP} {x0 : Nat} {x1 : Int32} {σ : Nat → jcell} : rB3 N K n p 187 [rR x0, rI x1] σ ↔ (∃ g, rRw K n σ x0 105 4 g ∧ (g 3).toInt = x1.toInt) := (rB3_o (k := 187) rfl).trans ro2_187
theorem ro3_197 {N : Int} {K : Nat → Nat} {n : Nat} {p : rP} {x0 : Nat} {x1 : Int32} {σ : Nat → jcell} : rB3 N K n p 197 [rR x0, rI x1] σ ↔ (x1.toInt = 0 → rFO K n σ x0) := (rB3_o (k := 197) rfl).trans ro2_197
theorem ro3_218 {N : Int} {K : Nat → Nat} {n : Nat} {p : rP} {x0 : Int32} {x1 : Int32} {σ : Nat → jcell} : rB3 N K n p 218 [rI x0, rI x1] σ ↔ (x1.toInt = x0.toInt % 8) := (rB3_o (k := 218) rfl).trans ro2_218
theorem ro3_220 {N : Int} {K : Nat → Nat} {n : Nat} {p : rP} {x0 : Nat} {σ : Nat → jcell} : rB3 N K n p 220 [rR x0] σ ↔ (∃ v : Int32, rOb K n σ x0 62 29 (rI v) ∧ 0 ≤ v.toInt ∧ v.toInt ≤ 1298) := (rB3_o (k := 220) rfl).trans ro2_220
theorem ro3_226 {N : Int} {K : Nat → Nat} {n : Nat} {p : rP} {x0 : Int32} {x1 : Int32} {x2 : Int32} {x3 : Int32} {σ : Nat → jcell} : rB3 N K n p 226 [rI x0, rI x1, rI x2, rI x3] σ ↔ (x2.toInt = x1.toInt % 8 - x0.toInt % 8 ∧ x3.toInt = x1.toInt / 8 - x0.toInt / 8) := (rB3_o (k := 226) rfl).trans ro2_226
theorem ro3_228 {N : Int} {K : Nat → Nat} {n : Nat} {p : rP} {x0 : Int32} {x1 : Int32} {x2 : Int32} {σ : Nat → jcell} : rB3 N K n p 228 [rI x0, rI x1, rI x2] σ ↔ (x2.toInt = x0.toInt * x0.toInt + x1.toInt * x1.toInt) := (rB3_o (k := 228) rfl).trans ro2_228
theorem ro3_238 {N : Int} {K : Nat → Nat} {n : Nat} {p : rP} {x0 : Nat} {x1 : Int32} {x2 : Int32} {σ : Nat → jcell} : rB3 N K n p 238 [rR x0, rI x1, rI x2] σ ↔ (∃ C y, rTY K n σ x0 x1.toInt C y ∧ (0 ≤ x2.toInt → x2.toInt ≤ C)) := (rB3_o (k := 238) rfl).trans ro2_238
theorem ro3_241 {N : Int} {K : Nat → Nat} {n : Nat} {p : rP} {x0 : Nat} {x1 : Int32} {x2 : Int32} {σ : Nat → jcell} : rB3 N K n p 241 [rR x0, rI x1, rI x2] σ ↔ (∃ C y, rTY K n σ x0 x1.toInt C y ∧ (0 ≤ x2.toInt ∧ x2.toInt ≤ C)) := (rB3_o (k := 241) rfl).trans ro2_241
theorem ro3_242 {N : Int} {K : Nat → Nat} {n : Nat} {p : rP} {x0 : Nat} {x1 : Int32} {x2 : Int32} {x3 : Int32} {σ : Nat → jcell} : rB3 N K n p 242 [rR x0, rI x1, rI x2, rI x3] σ ↔ (∃ C y, rTY K n σ x0 x1.toInt C y ∧ (∃ L, rCn y.2.2.2.1 x2.toInt L ∧ (∀ c ∈ L, 1 ≤ c ∧ c ≤ C) ∧ (L.length : Int) = x3.toInt)) := (rB3_o (k := 242) rfl).trans ro2_242
theorem ro3_245 {N : Int} {K : Nat → Nat} {n : Nat} {p : rP} {x0 : Nat} {x1 : Int32} {x2 : Int32} {σ : Nat → jcell} : rB3 N K n p 245 [rR x0, rI x1, rI x2] σ ↔ (rSL9 K n σ x0 x1.toInt x2.toInt) := (rB3_o (k := 245) rfl).trans ro2_245
theorem ro3_253 {N : Int} {K : Nat → Nat} {n : Nat} {p : rP} {x0 : Nat} {x1 : Int32} {x2 : Int32} {σ : Nat → jcell} : rB3 N K n p 253 [rR x0, rI x1, rI x2] σ ↔ (∃ C y, rTY K n σ x0 x1.toInt C y ∧ (y.2.2.2.2.1.2.1 = x2.toInt)) := (rB3_o (k := 253) rfl).trans ro2_253
theorem ro3_254 {N : Int} {K : Nat → Nat} {n : Nat} {p : rP} {x0 : Nat} {x1 : Int32} {x2 : Int32} {σ : Nat → jcell} : rB3 N K n p 254 [rR x0, rI x1, rI x2] σ ↔ (∃ C y, rTY K n σ x0 x1.toInt C y ∧ (y.2.2.2.2.1.2.2.1 = x2.toInt)) := (rB3_o (k := 254) rfl).trans ro2_254
theorem ro3_255 {N : Int} {K : Nat → Nat} {n : Nat} {p : rP} {x0 : Nat} {x1 : Int32} {x2 : Int32} {σ : Nat → jcell} : rB3 N K n p 255 [rR x0, rI x1, rI x2] σ ↔ (∃ C y, rTY K n σ x0 x1.toInt C y ∧ (y.2.2.2.2.1.2.2.2 = x2.toInt)) := (rB3_o (k := 255) rfl).trans ro2_255
theorem ro3_266 {N : Int} {K : Nat → Nat} {n : Nat} {p : rP} {x0 : Nat} {x1 : Int32} {x2 : Int32} {x3 : Int32} {σ : Nat → jcell} : rB3 N K n p 266 [rR x0, rI x1, rI x2, rI x3] σ ↔ (∃ C y, rTY K n σ x0 x1.toInt C y ∧ (rLm (rPo y x2.toInt) x3.toInt ∧ rGd (rMk (rPo y x2.toInt) x3.toInt))) := (rB3_o (k := 266) rfl).trans ro2_266
theorem ro3_280 {N : Int} {K : Nat → Nat} {n : Nat} {p : rP} {x0 : Nat} {x1 : Int32} {σ : Nat → jcell} : rB3 N K n p 280 [rR x0, rI x1] σ ↔ (0 ≤ x1.toInt ∧ (∃ g, rRo K n σ x0 62 7 65 2 g ∧ (g x1.toInt.toNat).toInt = 0) ∧ ∃ g, rRo K n σ x0 62 10 68 602 g ∧ (g (301 * x1.toInt).toNat).toInt = -1) := (rB3_o (k := 280) rfl).trans ro2_280
theorem ro3_281 {N : Int} {K : Nat → Nat} {n : Nat} {p : rP} {x0 : Nat} {x1 : Int32} {σ : Nat → jcell} : rB3 N K n p 281 [rR x0, rI x1] σ ↔ (∃ q z, rSt9 K n σ x0 x1.toInt q z ∧ rGd q ∧ 0 ≤ z ∧ z ≤ 999 ∧ 0 ≤ q.2.2.1 ∧ q.2.2.1 ≤ 15) := (rB3_o (k := 281) rfl).trans ro2_281
theorem ro3_282_1 {N : Int} {K : Nat → Nat} {n : Nat} {p : rP} {x0 : Nat} {σ : Nat → jcell} : rB3 N K n p 282 [rR x0] σ ↔ (∃ q, rTX K n σ x0 q ∧ rGd q) := (rB3_o (k := 282) rfl).trans ro2_282_1
theorem ro3_282_2 {N : Int} {K : Nat → Nat} {n : Nat} {p : rP} {x0 : Nat} {x1 : Int32} {σ : Nat → jcell} : rB3 N K n p 282 [rR x0, rI x1] σ ↔ (x1.toInt = 1 → ∃ q, rTX K n σ x0 q ∧ rGd q) := (rB3_o (k := 282) rfl).trans ro2_282_2
theorem ro3_342 {N : Int} {K : Nat → Nat} {n : Nat} {p : rP} {x0 : Int32} {x1 : Int32} {x2 : Int32} {x3 : Int32} {x4 : Int32} {σ : Nat → jcell} : rB3 N K n p 342 [rI x0, rI x1, rI x2, rI x3, rI x4] σ ↔ (-1 ≤ x2.toInt ∧ x2.toInt ≤ 1 ∧ -1 ≤ x3.toInt ∧ x3.toInt ≤ 1 ∧ 0 ≤ x4.toInt ∧ x4.toInt ≤ 63 ∧ ∃ j, 0 ≤ j ∧ x1.toInt % 8 = x4.toInt % 8 + j * x2.toInt ∧ x1.toInt / 8 = x4.toInt / 8 + j * x3.toInt) := Iff.rfl
theorem ro3_343 {N : Int} {K : Nat → Nat} {n : Nat} {p : rP} {x0 : Nat} {x1 : Int32} {σ : Nat → jcell} : rB3 N K n p 343 [rR x0, rI x1] σ ↔ (0 ≤ x1.toInt → ∃ g c, rRo K n σ x0 62 32 85 2048 g ∧ rOb K n σ x0 62 33 (rI c) ∧ ∃ j, 0 ≤ j ∧ j < c.toInt ∧ (g j.toNat).toInt = x1.toInt) := Iff.rfl
theorem ro3_344 {N : Int} {K : Nat → Nat} {n : Nat} {p : rP} {x0 : Nat} {x1 : Int32} {σ : Nat → jcell} : rB3 N K n p 344 [rR x0, rI x1] σ ↔ (0 ≤ x1.toInt → ∃ g c, rRo K n σ x0 62 32 85 2048 g ∧ rOb K n σ x0 62 33 (rI c) ∧ ∃ j, 0 ≤ j ∧ j < c.toInt ∧ (g j.toNat).toInt = x1.toInt) := Iff.rfl
theorem ro3_345 {N : Int} {K : Nat → Nat} {n : Nat} {p : rP} {x0 : Nat} {x1 : Int32} {x2 : Int32} {σ : Nat → jcell} : rB3 N K n p 345 [rR x0, rI x1, rI x2] σ ↔ (0 ≤ 301 * x1.toInt + x2.toInt ∧ ∃ g, rRo K n σ x0 62 12 70 602 g ∧ (g (301 * x1.toInt + x2.toInt).toNat).toInt = 0) := Iff.rfl
theorem ro3_346 {N : Int} {K : Nat → Nat} {n : Nat} {p : rP} {x0 : Nat} {x1 : Int32} {x2 : Int32} {σ : Nat → jcell} : rB3 N K n p 346 [rR x0, rI x1, rI x2] σ ↔ (0 ≤ 301 * x1.toInt + x2.toInt ∧ ∃ g, rRo K n σ x0 62 12 70 602 g ∧ (g (301 * x1.toInt + x2.toInt).toNat).toInt ≤ 3) := Iff.rfl
theorem ro3_347 {N : Int} {K : Nat → Nat} {n : Nat} {p : rP} {x0 : Nat} {x1 : Int32} {σ : Nat → jcell} : rB3 N K n p 347 [rR x0, rI x1] σ ↔ (0 ≤ x1.toInt ∧ ∃ g, rRo K n σ x0 62 12 70 602 g ∧ (g x1.toInt.toNat).toInt = 0) := Iff.rfl
theorem ro3_348 {N : Int} {K : Nat → Nat} {n : Nat} {p : rP} {x0 : Nat} {x1 : Int32} {σ : Nat → jcell} : rB3 N K n p 348 [rR x0, rI x1] σ ↔ (∃ g t e, rAt9 K n σ x0 g t e ∧ x1.toInt = rLk9 g t.toInt e.toInt) := Iff.rfl
theorem ro3_349 {N : Int} {K : Nat → Nat} {n : Nat} {p : rP} {x0 : Nat} {x1 : Int32} {x2 : Int32} {σ : Nat → jcell} : rB3 N K n p 349 [rR x0, rI x1, rI x2] σ ↔ (∃ C y, rTY K n σ x0 x1.toInt C y ∧ (0 ≤ x2.toInt ∧ x2.toInt ≤ C)) := Iff.rfl
theorem ro3_350 {N : Int} {K : Nat → Nat} {n : Nat} {p : rP} {x0 : Nat} {x1 : Int32} {x2 : Int32} {σ : Nat → jcell} : rB3 N K n p 350 [rR x0, rI x1, rI x2] σ ↔ (0 ≤ x1.toInt ∧ ∃ g, rRo K n σ x0 62 18 76 2 g ∧ (g x1.toInt.toNat).toInt = x2.toInt) := Iff.rfl
theorem ro3_351 {N : Int} {K : Nat → Nat} {n : Nat} {p : rP} {x0 : Nat} {x1 : Int32} {x2 : Int32} {σ : Nat → jcell} : rB3 N K n p 351 [rR x0, rI x1, rI x2] σ ↔ (1 ≤ x2.toInt → 0 ≤ 301 * x1.toInt + x2.toInt ∧ ∃ g, rRo K n σ x0 62 12 70 602 g ∧ (g (301 * x1.toInt + x2.toInt).toNat).toInt = 0) := Iff.rfl
theorem ro3_352 {N : Int} {K : Nat → Nat} {n : Nat} {p : rP} {x0 : Nat} {x1 : Int32} {x2 : Int32} {σ : Nat → jcell} : rB3 N K n p 352 [rR x0, rI x1, rI x2] σ ↔ (∃ pa mo q0 c, rSt3 K n σ x0 x1.toInt pa mo q0 ∧ rOb K n σ x0 62 33 (rI c) ∧ rTL K n σ x0 c.toInt (rPo3 pa mo q0 x2.toInt)) := Iff.rfl
theorem ro3_353 {N : Int} {K : Nat → Nat} {n : Nat} {p : rP} {x0 : Nat} {σ : Nat → jcell} : rB3 N K n p 353 [rR x0] σ ↔ (∃ g, rRo K n σ x0 109 5 112 6 g ∧ ∀ j : Nat, 2 ≤ j → j ≤ 5 → (g j).toInt ≤ 100000000) := Iff.rfl
theorem ro3_354 {N : Int} {K : Nat → Nat} {n : Nat} {p : rP} {x0 : Nat} {x1 : Int32} {σ : Nat → jcell} : rB3 N K n p 354 [rR x0, rI x1] σ ↔ (∃ g t e, rAt9 K n σ x0 g t e ∧ ((0 ≤ x1.toInt ∧ rRQ9 g t.toInt e.toInt) ∨ (x1.toInt < 0 ∧ ¬ rRQ9 g t.toInt e.toInt))) := Iff.rfl
theorem ro3_355 {N : Int} {K : Nat → Nat} {n : Nat} {p : rP} {x0 : Nat} {σ : Nat → jcell} : rB3 N K n p 355 [rR x0] σ ↔ (∃ g t e, rAt9 K n σ x0 g t e ∧ rRQ9 g t.toInt e.toInt) := Iff.rfl
theorem ro3_356 {N : Int} {K : Nat → Nat} {n : Nat} {p : rP} {x0 : Nat} {x1 : Int32} {σ : Nat → jcell} : rB3 N K n p 356 [rR x0, rI x1] σ ↔ (x1.toInt = 0 → ∃ g t e, rAt9 K n σ x0 g t e ∧ rRQ9 g t.toInt e.toInt) := Iff.rfl
theorem ro3_357 {N : Int} {K : Nat → Nat} {n : Nat} {p : rP} {x0 : Nat} {x1 : Int32} {σ : Nat → jcell} : rB3 N K n p 357 [rR x0, rI x1] σ ↔ (∃ g t e, rAt9 K n σ x0 g t e ∧ ((x1.toInt = 1 ∧ rGw9 g t.toInt e.toInt 49 45 48) ∨ (x1.toInt = 0 ∧ ¬ rGw9 g t.toInt e.toInt 49 45 48))) := Iff.rfl
theorem ro3_358 {N : Int} {K : Nat → Nat} {n : Nat} {p : rP} {x0 : Nat} {x1 : Int32} {σ : Nat → jcell} : rB3 N K n p 358 [rR x0, rI x1] σ ↔ (∃ g t e, rAt9 K n σ x0 g t e ∧ ((x1.toInt = 1 ∧ rHf9 g t.toInt e.toInt) ∨ (x1.toInt = 0 ∧ ¬ rHf9 g t.toInt e.toInt))) := Iff.rfl
theorem ro3_359 {N : Int} {K : Nat → Nat} {n : Nat} {p : rP} {x0 : Int32} {σ : Nat → jcell} : rB3 N K n p 359 [rI x0] σ ↔ (True) := Iff.rfl
theorem ro3_360 {N : Int} {K : Nat → Nat} {n : Nat} {p : rP} {x0 : Int32} {σ : Nat → jcell} : rB3 N K n p 360 [rI x0] σ ↔ (True) := Iff.rfl
theorem ro3_361 {N : Int} {K : Nat → Nat} {n : Nat} {p : rP} {x0 : Int32} {σ : Nat → jcell} : rB3 N K n p 361 [rI x0] σ ↔ (True) := Iff.rfl
theorem ro3_362 {N : Int} {K : Nat → Nat} {n : Nat} {p : rP} {x0 : Int32} {σ : Nat → jcell} : rB3 N K n p 362 [rI x0] σ ↔ (True) := Iff.rfl
theorem ro3_363 {N : Int} {K : Nat → Nat} {n : Nat} {p : rP} {x0 : Int32} {σ : Nat → jcell} : rB3 N K n p 363 [rI x0] σ ↔ (True) := Iff.rfl
theorem ro3_364 {N : Int} {K : Nat → Nat} {n : Nat} {p : rP} {x0 : Nat} {x1 : Int32} {σ : Nat → jcell} : rB3 N K n p 364 [rR x0, rI x1] σ ↔ (∃ g t e, rAt9 K n σ x0 g t e ∧ ((x1.toInt = 1 ∧ rGw9 g t.toInt e.toInt 48 45 49) ∨ (x1.toInt = 0 ∧ ¬ rGw9 g t.toInt e.toInt 48 45 49))) := Iff.rfl
theorem ro3_365 {N : Int} {K : Nat → Nat} {n : Nat} {p : rP} {x0 : Nat} {x1 : Int32} {σ : Nat → jcell} : rB3 N K n p 365 [rR x0, rI x1] σ ↔ (∃ g t e, rAt9 K n σ x0 g t e ∧ ((x1.toInt = 1 ∧ rGw9 g t.toInt e.toInt 49 47 50) ∨ (x1.toInt = 0 ∧ ¬ rGw9 g t.toInt e.toInt 49 47 50))) := Iff.rfl
theorem ro3_366 {N : Int} {K : Nat → Nat} {n : Nat} {p : rP} {x0 : Nat} {σ : Nat → jcell} : rB3 N K n p 366 [rR x0] σ ↔ (∃ g t e, rAt9 K n σ x0 g t e ∧ ¬ rLk9 g t.toInt e.toInt = 42) := Iff.rfl
theorem ro3_367 {N : Int} {K : Nat → Nat} {n : Nat} {p : rP} {x0 : Nat} {σ : Nat → jcell} : rB3 N K n p 367 [rR x0] σ ↔ (∃ g h : Int32, rOb K n σ x0 62 5 (rI g) ∧ rOb K n σ x0 62 6 (rI h) ∧ (∃ C y, rTY K n σ x0 g.toInt C y ∧ 0 ≤ h.toInt ∧ h.toInt ≤ C) ∧ rSL9 K n σ x0 g.toInt h.toInt) := Iff.rfl
theorem ro3_368 {N : Int} {K : Nat → Nat} {n : Nat} {p : rP} {x0 : Nat} {x1 : Int32} {x2 : Int32} {σ : Nat → jcell} : rB3 N K n p 368 [rR x0, rI x1, rI x2] σ ↔ (x2.toInt = 0 → ∃ C y, rTY K n σ x0 x1.toInt C y) := Iff.rfl
theorem ro3_369 {N : Int} {K : Nat → Nat} {n : Nat} {p : rP} {x0 : Nat} {x1 : Int32} {σ : Nat → jcell} : rB3 N K n p 369 [rR x0, rI x1] σ ↔ (∃ C y, rTY K n σ x0 x1.toInt C y ∧ (True)) := Iff.rfl
theorem ro3_370 {N : Int} {K : Nat → Nat} {n : Nat} {p : rP} {x0 : Nat} {x1 : Int32} {σ : Nat → jcell} : rB3 N K n p 370 [rR x0, rI x1] σ ↔ (∃ g, rRo K n σ x0 55 14 58 32768 g ∧ ∀ j, 0 ≤ j → j < x1.toInt → (g j.toNat).toInt ≤ 65535) := Iff.rfl
theorem ro3_371 {N : Int} {K : Nat → Nat} {n : Nat} {p : rP} {x0 : Nat} {x1 : Int32} {σ : Nat → jcell} : rB3 N K n p 371 [rR x0, rI x1] σ ↔ (∃ g, rRo K n σ x0 55 14 58 32768 g ∧ ∀ j, 0 ≤ j → j < x1.toInt + 1 → (g j.toNat).toInt ≤ 65535) := Iff.rfl
theorem ro3_372 {N : Int} {K : Nat → Nat} {n : Nat} {p : rP} {x0 : Nat} {x1 : Int32} {σ : Nat → jcell} : rB3 N K n p 372 [rR x0, rI x1] σ ↔ (∃ g h, rRo K n σ x0 55 14 58 32768 g ∧ rRo K n σ x0 55 15 59 32768 h ∧ ∀ j, 0 ≤ j → j < x1.toInt → (g j.toNat).toInt < (h j.toNat).toInt) := Iff.rfl
theorem ro3_373 {N : Int} {K : Nat → Nat} {n : Nat} {p : rP} {x0 : Nat} {x1 : Int32} {σ : Nat → jcell} : rB3 N K n p 373 [rR x0, rI x1] σ ↔ (∃ g h, rRo K n σ x0 55 14 58 32768 g ∧ rRo K n σ x0 55 15 59 32768 h ∧ ∀ j, 0 ≤ j → j < x1.toInt + 1 → (g j.toNat).toInt < (h j.toNat).toInt) := Iff.rfl
theorem ro3_374 {N : Int} {K : Nat → Nat} {n : Nat} {p : rP} {x0 : Nat} {x1 : Int32} {x2 : Int32} {σ : Nat → jcell} : rB3 N K n p 374 [rR x0, rI x1, rI x2] σ ↔ (0 ≤ x1.toInt ∧ ∃ g, rRo K n σ x0 55 14 58 32768 g ∧ (g x1.toInt.toNat).toInt = x2.toInt) := Iff.rfl
theorem ro3_375 {N : Int} {K : Nat → Nat} {n : Nat} {p : rP} {x0 : Nat} {x1 : Int32} {x2 : Int32} {σ : Nat → jcell} : rB3 N K n p 375 [rR x0, rI x1, rI x2] σ ↔ (0 ≤ x1.toInt ∧ ∃ g, rRo K n σ x0 55 14 58 32768 g ∧ (g x1.toInt.toNat).toInt + x2.toInt ≤ 65536) := Iff.rfl
theorem ro3_376 {N : Int} {K : Nat → Nat} {n : Nat} {p : rP} {x0 : Nat} {σ : Nat → jcell} : rB3 N K n p 376 [rR x0] σ ↔ (∃ M, rMe K n σ x0 M ∧ (rVal M)) := Iff.rfl
theorem ro3_377 {N : Int} {K : Nat → Nat} {n : Nat} {p : rP} {x0 : Nat} {x1 : Int32} {σ : Nat → jcell} : rB3 N K n p 377 [rR x0, rI x1] σ ↔ (∃ M, rMe K n σ x0 M ∧ (∀ s, x1.toInt < s / 8 → rV1s M s)) := Iff.rfl
theorem ro3_378 {N : Int} {K : Nat → Nat} {n : Nat} {p : rP} {x0 : Nat} {x1 : Int32} {x2 : Int32} {σ : Nat → jcell} : rB3 N K n p 378 [rR x0, rI x1, rI x2] σ ↔ (∃ M, rMe K n σ x0 M ∧ (∀ s, (x1.toInt < s / 8 ∨ (s / 8 = x1.toInt ∧ s % 8 < x2.toInt)) → rV1s M s)) := Iff.rfl
theorem ro3_379 {N : Int} {K : Nat → Nat} {n : Nat} {p : rP} {x0 : Nat} {x1 : Int32} {x2 : Int32} {x3 : Int32} {σ : Nat → jcell} : rB3 N K n p 379 [rR x0, rI x1, rI x2, rI x3] σ ↔ (∃ M, rMe K n σ x0 M ∧ (∀ s, (x1.toInt < s / 8 ∨ (s / 8 = x1.toInt ∧ s % 8 < x2.toInt + x3.toInt)) → rV1s M s)) := Iff.rfl
theorem ro3_380 {N : Int} {K : Nat → Nat} {n : Nat} {p : rP} {x0 : Nat} {x1 : Int32} {x2 : Int32} {x3 : Int32} {σ : Nat → jcell} : rB3 N K n p 380 [rR x0, rI x1, rI x2, rI x3] σ ↔ (∃ M, rMe K n σ x0 M ∧ (∀ s, (x1.toInt < s / 8 ∨ (s / 8 = x1.toInt ∧ s % 8 < x2.toInt + x3.toInt + 1)) → rV1s M s)) := Iff.rfl
theorem ro3_381 {N : Int} {K : Nat → Nat} {n : Nat} {p : rP} {x0 : Nat} {x1 : Int32} {x2 : Int32} {σ : Nat → jcell} : rB3 N K n p 381 [rR x0, rI x1, rI x2] σ ↔ (∃ M, rMe K n σ x0 M ∧ (∀ s, (x1.toInt < s / 8 ∨ (s / 8 = x1.toInt ∧ s % 8 < x2.toInt + 1)) → rV1s M s)) := Iff.rfl
theorem ro3_382 {N : Int} {K : Nat → Nat} {n : Nat} {p : rP} {x0 : Nat} {x1 : Nat} {x2 : Int32} {σ : Nat → jcell} : rB3 N K n p 382 [rR x0, rR x1, rI x2] σ ↔ (∃ g h, rRo K n σ x0 62 24 82 64 g ∧ rRo K n σ x1 88 2 90 64 h ∧ ∀ j, 0 ≤ j → j < x2.toInt → j ≤ 63 → (g j.toNat).toInt = (h j.toNat).toInt) := Iff.rfl
theorem ro3_383 {N : Int} {K : Nat → Nat} {n : Nat} {p : rP} {x0 : Nat} {x1 : Nat} {x2 : Int32} {σ : Nat → jcell} : rB3 N K n p 383 [rR x0, rR x1, rI x2] σ ↔ (∃ g h, rRo K n σ x0 62 24 82 64 g ∧ rRo K n σ x1 88 2 90 64 h ∧ ∀ j, 0 ≤ j → j < x2.toInt + 1 → j ≤ 63 → (g j.toNat).toInt = (h j.toNat).toInt) := Iff.rfl
theorem ro3_384 {N : Int} {K : Nat → Nat} {n : Nat} {p : rP} {x0 : Nat} {x1 : Int32} {σ : Nat → jcell} : rB3 N K n p 384 [rR x0, rI x1] σ ↔ (∃ M, rMe K n σ x0 M ∧ (0 ≤ x1.toInt → rVal M)) := Iff.rfl
theorem ro3_385 {N : Int} {K : Nat → Nat} {n : Nat} {p : rP} {x0 : Int32} {σ : Nat → jcell} : rB3 N K n p 385 [rI x0] σ ↔ (x0.toInt = 0 ∨ (1 ≤ x0.toInt ∧ x0.toInt ≤ 6) ∨ (9 ≤ x0.toInt ∧ x0.toInt ≤ 14)) := Iff.rfl
theorem ro3_386 {N : Int} {K : Nat → Nat} {n : Nat} {p : rP} {x0 : Nat} {x1 : Int32} {σ : Nat → jcell} : rB3 N K n p 386 [rR x0, rI x1] σ ↔ (x1.toInt = 0 → rFO K n σ x0 ∧ ∃ M, rMe K n σ x0 M ∧ rVal M) := Iff.rfl
theorem ro3_387 {N : Int} {K : Nat → Nat} {n : Nat} {p : rP} {x0 : Nat} {σ : Nat → jcell} : rB3 N K n p 387 [rR x0] σ ↔ (∃ v : Int32, rOb K n σ x0 62 29 (rI v) ∧ 0 ≤ v.toInt ∧ v.toInt ≤ 999) := Iff.rfl
theorem ro3_388 {N : Int} {K : Nat → Nat} {n : Nat} {p : rP} {x0 : Nat} {σ : Nat → jcell} : rB3 N K n p 388 [rR x0] σ ↔ (∃ g, rRo K n σ x0 62 31 84 5 g ∧ 0 ≤ (g 4).toInt ∧ (g 4).toInt ≤ 999) := Iff.rfl
theorem ro3_389 {N : Int} {K : Nat → Nat} {n : Nat} {p : rP} {x0 : Nat} {x1 : Nat} {x2 : Int32} {x3 : Int32} {x4 : Int32} {x5 : Int32} {σ : Nat → jcell} : rB3 N K n p 389 [rR x0, rR x1, rI x2, rI x3, rI x4, rI x5] σ ↔ (∃ C y, rTY K n σ x1 x2.toInt C y ∧ 0 ≤ x3.toInt ∧ x3.toInt ≤ C ∧ 0 ≤ x4.toInt ∧ rPthM K n σ x0 y x3.toInt x4.toInt ∧ x5.toInt = rUa y.1 x4.toInt.toNat x3.toInt ∧ 0 ≤ x5.toInt ∧ x5.toInt ≤ C) := Iff.rfl
theorem ro3_390 {N : Int} {K : Nat → Nat} {n : Nat} {p : rP} {x0 : Nat} {x1 : Nat} {x2 : Int32} {x3 : Int32} {x4 : Int32} {x5 : Int32} {σ : Nat → jcell} : rB3 N K n p 390 [rR x0, rR x1, rI x2, rI x3, rI x4, rI x5] σ ↔ (∃ C y, rTY K n σ x1 x2.toInt C y ∧ 0 ≤ x3.toInt ∧ x3.toInt ≤ C ∧ 0 ≤ x4.toInt ∧ rPthM K n σ x0 y x3.toInt (x4.toInt + 1) ∧ x5.toInt = rUa y.1 x4.toInt.toNat x3.toInt ∧ 1 ≤ x5.toInt ∧ x5.toInt ≤ C) := Iff.rfl
theorem ro3_391 {N : Int} {K : Nat → Nat} {n : Nat} {p : rP} {x0 : Nat} {x1 : Nat} {x2 : Int32} {x3 : Int32} {x4 : Int32} {σ : Nat → jcell} : rB3 N K n p 391 [rR x0, rR x1, rI x2, rI x3, rI x4] σ ↔ (∃ C y, rTY K n σ x1 x2.toInt C y ∧ 0 ≤ x3.toInt ∧ x3.toInt ≤ C ∧ 0 ≤ x4.toInt ∧ rPthM K n σ x0 y x3.toInt x4.toInt ∧ rUa y.1 x4.toInt.toNat x3.toInt = 0) := Iff.rfl
theorem ro3_392 {N : Int} {K : Nat → Nat} {n : Nat} {p : rP} {x0 : Nat} {x1 : Nat} {x2 : Int32} {x3 : Int32} {σ : Nat → jcell} : rB3 N K n p 392 [rR x0, rR x1, rI x2, rI x3] σ ↔ (0 ≤ x2.toInt ∧ ∃ g5 gm, rRo K n σ x1 62 16 74 128 g5 ∧ rRo K n σ x0 88 2 90 64 gm ∧ ∀ j, 0 ≤ j → j < x3.toInt → j ≤ 63 → (gm j.toNat).toInt = (g5 (64 * x2.toInt + j).toNat).toInt) := Iff.rfl
theorem ro3_393 {N : Int} {K : Nat → Nat} {n : Nat} {p : rP} {x0 : Nat} {x1 : Nat} {x2 : Int32} {x3 : Int32} {σ : Nat → jcell} : rB3 N K n p 393 [rR x0, rR x1, rI x2, rI x3] σ ↔ (0 ≤ x2.toInt ∧ ∃ g5 gm, rRo K n σ x1 62 16 74 128 g5 ∧ rRo K n σ x0 88 2 90 64 gm ∧ ∀ j, 0 ≤ j → j < x3.toInt + 1 → j ≤ 63 → (gm j.toNat).toInt = (g5 (64 * x2.toInt + j).toNat).toInt) := Iff.rfl
theorem ro3_394 {N : Int} {K : Nat → Nat} {n : Nat} {p : rP} {x0 : Nat} {x1 : Nat} {x2 : Nat} {x3 : Int32} {x4 : Int32} {x5 : Int32} {x6 : Int32} {σ : Nat → jcell} : rB3 N K n p 394 [rR x0, rR x1, rR x2, rI x3, rI x4, rI x5, rI x6] σ ↔ (∃ C y, rTY K n σ x1 x3.toInt C y ∧ 0 ≤ x4.toInt ∧ x4.toInt ≤ C ∧ 0 ≤ x5.toInt ∧ rPthM K n σ x0 y x4.toInt x5.toInt ∧ rUa y.1 x5.toInt.toNat x4.toInt = 0 ∧ -1 ≤ x6.toInt ∧ x6.toInt < x5.toInt ∧ rRX K n σ x2 (rPo y (rUa y.1 (x6.toInt + 1).toNat x4.toInt))) := Iff.rfl
theorem ro3_395 {N : Int} {K : Nat → Nat} {n : Nat} {p : rP} {x0 : Nat} {x1 : Nat} {x2 : Nat} {x3 : Int32} {x4 : Int32} {x5 : Int32} {x6 : Int32} {σ : Nat → jcell} : rB3 N K n p 395 [rR x0, rR x1, rR x2, rI x3, rI x4, rI x5, rI x6] σ ↔ (∃ C y, rTY K n σ x1 x3.toInt C y ∧ 0 ≤ x4.toInt ∧ x4.toInt ≤ C ∧ 0 ≤ x5.toInt ∧ rPthM K n σ x0 y x4.toInt x5.toInt ∧ rUa y.1 x5.toInt.toNat x4.toInt = 0 ∧ 0 ≤ x6.toInt ∧ x6.toInt < x5.toInt ∧ rRX K n σ x2 (rPo y (rUa y.1 x6.toInt.toNat x4.toInt))) := Iff.rfl
theorem ro3_396 {N : Int} {K : Nat → Nat} {n : Nat} {p : rP} {x0 : Nat} {x1 : Nat} {x2 : Int32} {x3 : Int32} {σ : Nat → jcell} : rB3 N K n p 396 [rR x0, rR x1, rI x2, rI x3] σ ↔ (∃ pa mo q0, rSt3 K n σ x1 x2.toInt pa mo q0 ∧ rRX K n σ x0 (rPo3 pa mo q0 x3.toInt)) := Iff.rfl
theorem ro3_397 {N : Int} {K : Nat → Nat} {n : Nat} {p : rP} {x0 : Nat} {x1 : Int32} {x2 : Int32} {σ : Nat → jcell} : rB3 N K n p 397 [rR x0, rI x1, rI x2] σ ↔ (rPG0 K n σ x0 (x1.toInt - x2.toInt)) := Iff.rfl
theorem ro3_398 {N : Int} {K : Nat → Nat} {n : Nat} {p : rP} {x0 : Nat} {x1 : Int32} {σ : Nat → jcell} : rB3 N K n p 398 [rR x0, rI x1] σ ↔ (0 ≤ x1.toInt ∧ x1.toInt ≤ 63 ∧ ∃ g, rRo K n σ x0 62 24 82 64 g ∧ ((1 ≤ (g x1.toInt.toNat).toInt ∧ (g x1.toInt.toNat).toInt ≤ 5) ∨ (9 ≤ (g x1.toInt.toNat).toInt ∧ (g x1.toInt.toNat).toInt ≤ 13))) := Iff.rfl
theorem ro3_399 {N : Int} {K : Nat → Nat} {n : Nat} {p : rP} {x0 : Nat} {σ : Nat → jcell} : rB3 N K n p 399 [rR x0] σ ↔ ((rOb K n σ x0 55 7 (.inr (.inr none)) ∧ ∀ q, q < n → ¬ K q = 109) ∨ ∃ m, rOb K n σ x0 55 7 (rR m) ∧ ∃ g, rRo K n σ m 109 5 112 6 g ∧ ∀ j : Nat, 2 ≤ j → j ≤ 5 → (g j).toInt ≤ 100000000) := Iff.rfl
theorem ro3_400 {N : Int} {K : Nat → Nat} {n : Nat} {p : rP} {x0 : Nat} {σ : Nat → jcell} : rB3 N K n p 400 [rR x0] σ ↔ (p.2 = none ∧ rTX K n σ x0 p.1) := (rB3_o (k := 400) rfl).trans ro2_400
theorem ro3_450 {N : Int} {K : Nat → Nat} {n : Nat} {p : rP} {x0 : Nat} {x1 : Int32} {σ : Nat → jcell} : rB3 N K n p 450 [rR x0, rI x1] σ ↔ (∃ C y, rTY K n σ x0 x1.toInt C y ∧ (∃ z, p.2 = some z ∧ z ≤ C)) := Iff.rfl
theorem ro3_451 {N : Int} {K : Nat → Nat} {n : Nat} {p : rP} {x0 : Int32} {σ : Nat → jcell} : rB3 N K n p 451 [rI x0] σ ↔ (∃ z, p.2 = some z ∧ z ≤ x0.toInt) := Iff.rfl
theorem ro3_452 {N : Int} {K : Nat → Nat} {n : Nat} {p : rP} {x0 : Int32} {σ : Nat → jcell} : rB3 N K n p 452 [rI x0] σ ↔ (1 ≤ x0.toInt → ∃ z, p.2 = some z ∧ z ≤ x0.toInt) := Iff.rfl
theorem ro3_453 {N : Int} {K : Nat → Nat} {n : Nat} {p : rP} {x0 : Nat} {x1 : Int32} {σ : Nat → jcell} : rB3 N K n p 453 [rR x0, rI x1] σ ↔ (∃ C y, rTY K n σ x0 x1.toInt C y ∧ (∃ z, p.2 = some z ∧ z ≤ C)) := Iff.rfl
theorem ro3_454 {N : Int} {K : Nat → Nat} {n : Nat} {p : rP} {x0 : Int32} {σ : Nat → jcell} : rB3 N K n p 454 [rI x0] σ ↔ (N ≤ x0.toInt) := Iff.rfl
theorem ro3_455 {N : Int} {K : Nat → Nat} {n : Nat} {p : rP} {x0 : Int32} {σ : Nat → jcell} : rB3 N K n p 455 [rI x0] σ ↔ (N + 1 ≤ x0.toInt) := Iff.rfl
theorem ro3_456 {N : Int} {K : Nat → Nat} {n : Nat} {p : rP} {x0 : Nat} {x1 : Int32} {x2 : Int32} {x3 : Int32} {σ : Nat → jcell} : rB3 N K n p 456 [rR x0, rI x1, rI x2, rI x3] σ ↔ (∃ C y, rTY K n σ x0 x1.toInt C y ∧ (∃ z, p.2 = some z ∧ z ≤ 79400 ∧ x3.toInt + 243 * rSz C y.1 x2.toInt ≤ z + 3 ∧ 1 ≤ x2.toInt ∧ x2.toInt ≤ C)) := Iff.rfl
theorem ro3_457 {N : Int} {K : Nat → Nat} {n : Nat} {p : rP} {x0 : Int32} {σ : Nat → jcell} : rB3 N K n p 457 [rI x0] σ ↔ (∃ z, p.2 = some z ∧ z ≤ 79400 ∧ x0.toInt ≤ z) := Iff.rfl
theorem ro3_458 {N : Int} {K : Nat → Nat} {n : Nat} {p : rP} {x0 : Nat} {x1 : Int32} {x2 : Int32} {x3 : Int32} {x4 : Int32} {σ : Nat → jcell} : rB3 N K n p 458 [rR x0, rI x1, rI x2, rI x3, rI x4] σ ↔ (∃ C y, rTY K n σ x0 x1.toInt C y ∧ (∃ z, p.2 = some z ∧ z ≤ 79400 ∧ ((x2.toInt < 0 ∧ x4.toInt ≤ z) ∨ (1 ≤ x2.toInt ∧ x2.toInt ≤ C ∧ N ≤ x2.toInt ∧ ((x3.toInt = 0 ∧ x4.toInt + 243 * rSz C y.1 x2.toInt ≤ z + 3) ∨ (x3.toInt = 1 ∧ N ≤ y.1 x2.toInt ∧ ∃ s, rSs N C y x2.toInt s ∧ x4.toInt + 243 * s ≤ z + 3)))))) := Iff.rfl
theorem ro3_459 {N : Int} {K : Nat → Nat} {n : Nat} {p : rP} {x0 : Nat} {x1 : Int32} {x2 : Int32} {x3 : Int32} {x4 : Int32} {σ : Nat → jcell} : rB3 N K n p 459 [rR x0, rI x1, rI x2, rI x3, rI x4] σ ↔ (∃ C y, rTY K n σ x0 x1.toInt C y ∧ (∃ z, p.2 = some z ∧ z ≤ 79400 ∧ 1 ≤ x2.toInt ∧ x2.toInt ≤ C ∧ N ≤ x2.toInt ∧ ∃ s, rSs N C y x3.toInt s ∧ x4.toInt + 243 * s + 243 * (rSz C y.1 x2.toInt - 1) ≤ z)) := Iff.rfl
theorem ro3_460 {N : Int} {K : Nat → Nat} {n : Nat} {p : rP} {x0 : Nat} {x1 : Int32} {x2 : Int32} {x3 : Int32} {x4 : Int32} {σ : Nat → jcell} : rB3 N K n p 460 [rR x0, rI x1, rI x2, rI x3, rI x4] σ ↔ (∃ C y, rTY K n σ x0 x1.toInt C y ∧ (∃ z, p.2 = some z ∧ z ≤ 79400 ∧ 1 ≤ x2.toInt ∧ x2.toInt ≤ C ∧ N ≤ x2.toInt ∧ ∃ s, rSs N C y (y.2.2.2.1 x3.toInt) s ∧ x4.toInt + 1 + 243 * s + 243 * (rSz C y.1 x2.toInt - 1) ≤ z)) := Iff.rfl
theorem ro3_461 {N : Int} {K : Nat → Nat} {n : Nat} {p : rP} {x0 : Nat} {x1 : Int32} {x2 : Int32} {x3 : Int32} {σ : Nat → jcell} : rB3 N K n p 461 [rR x0, rI x1, rI x2, rI x3] σ ↔ (∃ C y, rTY K n σ x0 x1.toInt C y ∧ (∃ z, p.2 = some z ∧ z ≤ 79400 ∧ ((x2.toInt < 0 ∧ x3.toInt ≤ z) ∨ (1 ≤ x2.toInt ∧ x2.toInt ≤ C ∧ N ≤ x2.toInt ∧ N ≤ y.1 x2.toInt ∧ ∃ s, rSs N C y x2.toInt s ∧ x3.toInt + 243 * s ≤ z)))) := Iff.rfl
theorem ro3_462 {N : Int} {K : Nat → Nat} {n : Nat} {p : rP} {x0 : Nat} {x1 : Int32} {x2 : Int32} {σ : Nat → jcell} : rB3 N K n p 462 [rR x0, rI x1, rI x2] σ ↔ (p.2 = none ∧ ∃ pa mo q0, rSt3 K n σ x0 x1.toInt pa mo q0 ∧ p.1 = rPo3 pa mo q0 x2.toInt) := Iff.rfl
theorem ro3_463 {N : Int} {K : Nat → Nat} {n : Nat} {p : rP} {x0 : Nat} {σ : Nat → jcell} : rB3 N K n p 463 [rR x0] σ ↔ (∃ c : Int32, rOb K n σ x0 62 33 (rI c) ∧ c.toInt ≤ 2048 ∧ rTL K n σ x0 c.toInt p.1) := Iff.rfl
theorem ro3_464 {N : Int} {K : Nat → Nat} {n : Nat} {p : rP} {x0 : Nat} {x1 : Nat} {x2 : Int32} {x3 : Int32} {x4 : Int32} {x5 : Int32} {σ : Nat → jcell} : rB3 N K n p 464 [rR x0, rR x1, rI x2, rI x3, rI x4, rI x5] σ ↔ (p.2 = none ∧ ∃ C y, rTY K n σ x1 x2.toInt C y ∧ 0 ≤ x3.toInt ∧ x3.toInt ≤ C ∧ 0 ≤ x4.toInt ∧ rPthM K n σ x0 y x3.toInt x4.toInt ∧ rUa y.1 x4.toInt.toNat x3.toInt = 0 ∧ 0 ≤ x5.toInt ∧ x5.toInt < x4.toInt ∧ p.1 = rPo y (rUa y.1 (x5.toInt + 1).toNat x3.toInt)) := Iff.rfl
theorem ro3_465 {N : Int} {K : Nat → Nat} {n : Nat} {p : rP} {x0 : Nat} {x1 : Nat} {x2 : Int32} {x3 : Int32} {x4 : Int32} {σ : Nat → jcell} : rB3 N K n p 465 [rR x0, rR x1, rI x2, rI x3, rI x4] σ ↔ (p.2 = none ∧ ∃ C y, rTY K n σ x1 x2.toInt C y ∧ 0 ≤ x3.toInt ∧ x3.toInt ≤ C ∧ 0 ≤ x4.toInt ∧ rPthM K n σ x0 y x3.toInt x4.toInt ∧ rUa y.1 x4.toInt.toNat x3.toInt = 0 ∧ p.1 = rPo y 0) := Iff.rfl
theorem ro3_466 {N : Int} {K : Nat → Nat} {n : Nat} {p : rP} {x0 : Nat} {x1 : Nat} {x2 : Int32} {x3 : Int32} {x4 : Int32} {x5 : Int32} {σ : Nat → jcell} : rB3 N K n p 466 [rR x0, rR x1, rI x2, rI x3, rI x4, rI x5] σ ↔ (p.2 = none ∧ ∃ C y, rTY K n σ x1 x2.toInt C y ∧ 0 ≤ x3.toInt ∧ x3.toInt ≤ C ∧ 0 ≤ x4.toInt ∧ rPthM K n σ x0 y x3.toInt x4.toInt ∧ rUa y.1 x4.toInt.toNat x3.toInt = 0 ∧ 0 ≤ x5.toInt ∧ x5.toInt < x4.toInt ∧ p.1 = rPo y (rUa y.1 x5.toInt.toNat x3.toInt)) := Iff.rfl
theorem ro3_468 {N : Int} {K : Nat → Nat} {n : Nat} {p : rP} {x0 : Nat} {x1 : Int32} {x2 : Int32} {σ : Nat → jcell} : rB3 N K n p 468 [rR x0, rI x1, rI x2] σ ↔ (x2.toInt = 1 → ∃ g, rRo K n σ x0 88 33 107 4 g ∧ rLn x0 p g 0 (2 * x1.toInt).toNat) := Iff.rfl
theorem ro3_469 {N : Int} {K : Nat → Nat} {n : Nat} {p : rP} {x0 : Int32} {x1 : Int32} {σ : Nat → jcell} : rB3 N K n p 469 [rI x0, rI x1] σ ↔ (rJq x0.toInt x1.toInt = true) := Iff.rfl
theorem ro3_470 {N : Int} {K : Nat → Nat} {n : Nat} {p : rP} {x0 : Int32} {x1 : Int32} {x2 : Int32} {x3 : Int32} {x4 : Int32} {σ : Nat → jcell} : rB3 N K n p 470 [rI x0, rI x1, rI x2, rI x3, rI x4] σ ↔ (0 ≤ x3.toInt ∧ x3.toInt ≤ 64 ∧ x4.toInt ≤ rJb x0.toInt x1.toInt x2.toInt x3.toInt) := Iff.rfl
theorem ro3_471 {N : Int} {K : Nat → Nat} {n : Nat} {p : rP} {x0 : Int32} {x1 : Int32} {x2 : Int32} {x3 : Int32} {x4 : Int32} {σ : Nat → jcell} : rB3 N K n p 471 [rI x0, rI x1, rI x2, rI x3, rI x4] σ ↔ (0 ≤ x3.toInt ∧ x3.toInt ≤ 63 ∧ x4.toInt ≤ rJb x0.toInt x1.toInt x2.toInt (x3.toInt + 1)) := Iff.rfl
theorem ro3_472 {N : Int} {K : Nat → Nat} {n : Nat} {p : rP} {x0 : Int32} {x1 : Int32} {x2 : Int32} {σ : Nat → jcell} : rB3 N K n p 472 [rI x0, rI x1, rI x2] σ ↔ (x2.toInt = 1 → rJn x0.toInt x1.toInt = true) := Iff.rfl
theorem ro3_473 {N : Int} {K : Nat → Nat} {n : Nat} {p : rP} {x0 : Int32} {x1 : Int32} {x2 : Int32} {σ : Nat → jcell} : rB3 N K n p 473 [rI x0, rI x1, rI x2] σ ↔ (x0.toInt = 1 → x1.toInt = x2.toInt) := Iff.rfl
theorem ro3_474 {N : Int} {K : Nat → Nat} {n : Nat} {p : rP} {x0 : Nat} {σ : Nat → jcell} : rB3 N K n p 474 [rR x0] σ ↔ (∃ z, p.2 = some z ∧ rJe K n σ x0 z) := Iff.rfl
theorem ro3_475 {N : Int} {K : Nat → Nat} {n : Nat} {p : rP} {x0 : Nat} {x1 : Int32} {x2 : Int32} {x3 : Int32} {x4 : Int32} {x5 : Int32} {x6 : Int32} {σ : Nat → jcell} : rB3 N K n p 475 [rR x0, rI x1, rI x2, rI x3, rI x4, rI x5, rI x6] σ ↔ (x6.toInt < 0 → rJy K n σ x0 (524288 * x1.toInt + 262144 * x2.toInt + 4096 * x3.toInt + 64 * x4.toInt + x5.toInt - 524288)) := Iff.rfl
theorem ro3_476 {N : Int} {K : Nat → Nat} {n : Nat} {p : rP} {x0 : Nat} {x1 : Int32} {x2 : Int32} {x3 : Int32} {σ : Nat → jcell} : rB3 N K n p 476 [rR x0, rI x1, rI x2, rI x3] σ ↔ (∃ g, rJl K n σ x0 109 3 110 327680 g ∧ 4 * (rJs g 327680 : Int) + 2 * max 0 (2 - x2.toInt) + rJg x1.toInt ≤ x3.toInt) := Iff.rfl
theorem ro3_477 {N : Int} {K : Nat → Nat} {n : Nat} {p : rP} {x0 : Int32} {x1 : Int32} {x2 : Int32} {σ : Nat → jcell} : rB3 N K n p 477 [rI x0, rI x1, rI x2] σ ↔ (∃ z, p.2 = some z ∧ 4 * z + 2 * max 0 (2 - x1.toInt) + rJg x0.toInt ≤ x2.toInt) := Iff.rfl
theorem ro3_478 {N : Int} {K : Nat → Nat} {n : Nat} {p : rP} {x0 : Int32} {x1 : Int32} {x2 : Int32} {σ : Nat → jcell} : rB3 N K n p 478 [rI x0, rI x1, rI x2] σ ↔ (0 ≤ x0.toInt ∧ (x2.toInt < 0 → x1.toInt ≤ rJc (rJk p.1.1) x0.toInt.toNat)) := Iff.rfl
theorem ro3_479 {N : Int} {K : Nat → Nat} {n : Nat} {p : rP} {x0 : Int32} {σ : Nat → jcell} : rB3 N K n p 479 [rI x0] σ ↔ (0 ≤ x0.toInt → ¬ p.1.1 x0.toInt = 0 ∧ ¬ p.1.1 x0.toInt = 6 ∧ ¬ p.1.1 x0.toInt = 14) := Iff.rfl
theorem ro3_480 {N : Int} {K : Nat → Nat} {n : Nat} {p : rP} {x0 : Nat} {x1 : Int32} {σ : Nat → jcell} : rB3 N K n p 480 [rR x0, rI x1] σ ↔ (∃ g, rRw K n σ x0 107 4 g ∧ (g 0).toInt = x1.toInt) := Iff.rfl
theorem ro3_481 {N : Int} {K : Nat → Nat} {n : Nat} {p : rP} {x0 : Nat} {x1 : Int32} {σ : Nat → jcell} : rB3 N K n p 481 [rR x0, rI x1] σ ↔ (∃ g, rRw K n σ x0 107 4 g ∧ (g 1).toInt = x1.toInt) := Iff.rfl
theorem ro3_482 {N : Int} {K : Nat → Nat} {n : Nat} {p : rP} {x0 : Nat} {x1 : Int32} {σ : Nat → jcell} : rB3 N K n p 482 [rR x0, rI x1] σ ↔ (∃ g, rRw K n σ x0 107 4 g ∧ (g 2).toInt = x1.toInt) := Iff.rfl
theorem ro3_483 {N : Int} {K : Nat → Nat} {n : Nat} {p : rP} {x0 : Nat} {x1 : Int32} {σ : Nat → jcell} : rB3 N K n p 483 [rR x0, rI x1] σ ↔ (∃ g, rRw K n σ x0 107 4 g ∧ (g 3).toInt = x1.toInt) := Iff.rfl
theorem ro3_484 {N : Int} {K : Nat → Nat} {n : Nat} {p : rP} {x0 : Nat} {x1 : Int32} {x2 : Int32} {x3 : Int32} {σ : Nat → jcell} : rB3 N K n p 484 [rR x0, rI x1, rI x2, rI x3] σ ↔ (x3.toInt = 1 → ∃ C y, rTY K n σ x0 x1.toInt C y ∧ 0 ≤ x2.toInt ∧ x2.toInt ≤ C) := Iff.rfl
theorem ro3_485 {N : Int} {K : Nat → Nat} {n : Nat} {p : rP} {x0 : Int32} {x1 : Int32} {x2 : Int32} {σ : Nat → jcell} : rB3 N K n p 485 [rI x0, rI x1, rI x2] σ ↔ (x2.toInt = 1 → rJq x0.toInt x1.toInt = true) := Iff.rfl
theorem ro3_486 {N : Int} {K : Nat → Nat} {n : Nat} {p : rP} {x0 : Int32} {x1 : Int32} {x2 : Int32} {x3 : Int32} {σ : Nat → jcell} : rB3 N K n p 486 [rI x0, rI x1, rI x2, rI x3] σ ↔ (x3.toInt ≤ rJb x0.toInt x1.toInt x2.toInt 0) := Iff.rfl
theorem ro3_487 {N : Int} {K : Nat → Nat} {n : Nat} {p : rP} {x0 : Int32} {x1 : Int32} {σ : Nat → jcell} : rB3 N K n p 487 [rI x0, rI x1] σ ↔ (rJn x0.toInt x1.toInt = true) := Iff.rfl
theorem ro3_488 {N : Int} {K : Nat → Nat} {n : Nat} {p : rP} {x0 : Int32} {x1 : Int32} {x2 : Int32} {x3 : Int32} {σ : Nat → jcell} : rB3 N K n p 488 [rI x0, rI x1, rI x2, rI x3] σ ↔ (x0.toInt = 1 → x1.toInt = x2.toInt) := Iff.rfl
theorem ro3_489 {N : Int} {K : Nat → Nat} {n : Nat} {p : rP} {x0 : Nat} {x1 : Int32} {σ : Nat → jcell} : rB3 N K n p 489 [rR x0, rI x1] σ ↔ (∃ z, p.2 = some z ∧ (¬ (x1.toInt + 1) % 256 = 0 → rJe K n σ x0 (z - 1)) ∧ rJe K n σ x0 z) := Iff.rfl
theorem ro3_490 {N : Int} {K : Nat → Nat} {n : Nat} {p : rP} {x0 : Nat} {x1 : Int32} {x2 : Int32} {σ : Nat → jcell} : rB3 N K n p 490 [rR x0, rI x1, rI x2] σ ↔ (∃ z, p.2 = some z ∧ (x1.toInt = 1 → ¬ (x2.toInt + 1) % 256 = 0 → rJe K n σ x0 (z - 1)) ∧ rJe K n σ x0 z) := Iff.rfl
theorem ro3_491 {N : Int} {K : Nat → Nat} {n : Nat} {p : rP} {x0 : Nat} {x1 : Int32} {x2 : Int32} {x3 : Int32} {x4 : Int32} {x5 : Int32} {σ : Nat → jcell} : rB3 N K n p 491 [rR x0, rI x1, rI x2, rI x3, rI x4, rI x5] σ ↔ (rJy K n σ x0 (524288 * x1.toInt + 262144 * x2.toInt + 4096 * x3.toInt + 64 * x4.toInt + x5.toInt - 524288)) := Iff.rfl
theorem ro3_492 {N : Int} {K : Nat → Nat} {n : Nat} {p : rP} {x0 : Int32} {x1 : Int32} {x2 : Int32} {x3 : Int32} {σ : Nat → jcell} : rB3 N K n p 492 [rI x0, rI x1, rI x2, rI x3] σ ↔ (0 ≤ x0.toInt ∧ (x2.toInt < 0 → x1.toInt ≤ rJc (rJk p.1.1) (x0.toInt + 1).toNat)) := Iff.rfl
theorem ro3_493 {N : Int} {K : Nat → Nat} {n : Nat} {p : rP} {x0 : Int64} {x1 : Int32} {σ : Nat → jcell} : rB3 N K n p 493 [rL x0, rI x1] σ ↔ (0 ≤ x0.toInt ∧ x0.toInt ≤ 2048 ^ x1.toInt.toNat) := Iff.rfl
theorem ro3_494 {N : Int} {K : Nat → Nat} {n : Nat} {p : rP} {x0 : Int64} {x1 : Int32} {x2 : Int32} {σ : Nat → jcell} : rB3 N K n p 494 [rL x0, rI x1, rI x2] σ ↔ (0 ≤ x0.toInt ∧ x0.toInt ≤ x1.toInt * 2048 ^ (x2.toInt - 1).toNat) := Iff.rfl
theorem ro3_495 {N : Int} {K : Nat → Nat} {n : Nat} {p : rP} {x0 : Int64} {x1 : Int32} {x2 : Int32} {σ : Nat → jcell} : rB3 N K n p 495 [rL x0, rI x1, rI x2] σ ↔ (0 ≤ x0.toInt ∧ x0.toInt ≤ (x1.toInt + 1) * 2048 ^ (x2.toInt - 1).toNat) := Iff.rfl
theorem ro3_496 {N : Int} {K : Nat → Nat} {n : Nat} {p : rP} {x0 : Int64} {x1 : Int32} {σ : Nat → jcell} : rB3 N K n p 496 [rL x0, rI x1] σ ↔ ((x1.toInt = 0 ∧ x0.toInt = 0) ∨ (1 ≤ x1.toInt ∧ x1.toInt ≤ 18 ∧ x0.toInt = 10 ^ (x1.toInt - 1).toNat)) := Iff.rfl
end
section
/-! the reference: rules of u8 to uA -/
theorem rw_rkRY0 {N : Int} {K : Nat → Nat} {n : Nat} {JX : (Nat → jcell) → Prop} : aGho (rH N K n) fa_T K n JX ag_rkRY0 := by
  refine aGho_of ⟨rfl, rfl⟩ ?_
  intro p σ ρ hH hX hA hM0
  have hG := aAG_of hA.1 (fun i e v he hv => (hA.2 i e v he hv).1)
  clear hA
  obtain ⟨v0, v1, v2, v3, v4, v5, v6, rfl, g0, g1, g2, g3, g4, g5, g6⟩ := rA_7 hG
  clear hG
  obtain ⟨x0, rfl, b0, d0⟩ := aG_int g0
  dsimp only at b0 d0
  obtain ⟨x1, rfl, b1, d1⟩ := aG_int g1
  dsimp only at b1 d1
  obtain ⟨x2, rfl, b2, d2⟩ := aG_int g2
  dsimp only at b2 d2
  obtain ⟨x3, rfl, b3, d3⟩ := aG_int g3
  dsimp only at b3 d3
  obtain ⟨x4, rfl, b4, d4⟩ := aG_int g4
  dsimp only at b4 d4
  obtain ⟨x5, rfl, b5, d5⟩ := aG_int g5
  dsimp only at b5 d5
  obtain ⟨x6, rfl, b6, d6⟩ := aG_int g6
  dsimp only at b6 d6
  obtain ⟨m1, m2, m3, m4⟩ := hM0
  have l0 : 0 ≤ (1 * x4.toInt + 0) + 0 := by
    obtain ⟨z, e6, e7⟩ := m3 ([(4, 1)], 0) (List.mem_of_getElem? (i := 0) rfl)
    obtain rfl : (1 * x4.toInt + 0) = z := Option.some.inj (show some (1 * x4.toInt + 0) = some z from e6)
    exact e7
  have l1 : 0 ≤ (-1 * x4.toInt + 0) + 0 := by
    obtain ⟨z, e6, e7⟩ := m3 ([(4, -1)], 0) (List.mem_of_getElem? (i := 1) rfl)
    obtain rfl : (-1 * x4.toInt + 0) = z := Option.some.inj (show some (-1 * x4.toInt + 0) = some z from e6)
    exact e7
  have l2 : 0 ≤ (1 * x5.toInt + 0) + -1 := by
    obtain ⟨z, e6, e7⟩ := m3 ([(5, 1)], -1) (List.mem_of_getElem? (i := 2) rfl)
    obtain rfl : (1 * x5.toInt + 0) = z := Option.some.inj (show some (1 * x5.toInt + 0) = some z from e6)
    exact e7
  have f0 : rB3 N K n p 226 [rI x0, rI x1, rI x4, rI x5] σ := by
    obtain ⟨w, e6, e7⟩ := m4 (3620, [0, 1, 4, 5]) (List.mem_of_getElem? (i := 0) rfl)
    obtain rfl : [rI x0, rI x1, rI x4, rI x5] = w := Option.some.inj (show some [rI x0, rI x1, rI x4, rI x5] = some w from e6)
    exact (rF_b (r := 3620) (by decide) rfl).mp e7
  have f0 := ro3_226.mp f0
  have f1 : rB3 N K n p 120 [rI x0, rI x2, rI x3, rI x6] σ := by
    obtain ⟨w, e6, e7⟩ := m4 (1924, [0, 2, 3, 6]) (List.mem_of_getElem? (i := 1) rfl)
    obtain rfl : [rI x0, rI x2, rI x3, rI x6] = w := Option.some.inj (show some [rI x0, rI x2, rI x3, rI x6] = some w from e6)
    exact (rF_b (r := 1924) (by decide) rfl).mp e7
  have f1 := ro3_120.mp f1
  clear m1 m2 m3 m4
  have r0 : 0 ≤ (1 * x6.toInt + 0) + 0 := by
    have e : x6.toInt = x0.toInt + 0 + 8 * 1 := by
      have h := f1
      rw [show x2.toInt = 0 by omega, show x3.toInt = 1 by omega] at h
      unfold rSp at h
      rw [if_pos (by omega)] at h
      exact h
    omega
  have q0 : rB3 N K n p 342 [rI x0, rI x1, rI x2, rI x3, rI x6] σ := ro3_342.mpr (by
    have e : x6.toInt = x0.toInt + 0 + 8 * 1 := by
      have h := f1
      rw [show x2.toInt = 0 by omega, show x3.toInt = 1 by omega] at h
      unfold rSp at h
      rw [if_pos (by omega)] at h
      exact h
    refine ⟨by omega, by omega, by omega, by omega, by omega, d6, (1 * x5.toInt) - 1, by omega, ?_, ?_⟩
    · rw [show x2.toInt = 0 by omega]
      omega
    · rw [show x3.toInt = 1 by omega]
      omega)
  exact ⟨p, fun _ => rfl, ⟨(fun q h => by cases h), fun q h => (by cases h), (aAllc ⟨_, rfl, r0⟩ (fun f h => by cases h)), (aAllc ⟨_, rfl, (rF_b (r := 5477) (by decide) rfl).mpr q0⟩ (fun f h => by cases h))⟩, [], List.mem_cons_self, fun f h => (by cases h)⟩
theorem rw_rkRY1 {N : Int} {K : Nat → Nat} {n : Nat} {JX : (Nat → jcell) → Prop} : aGho (rH N K n) fa_T K n JX ag_rkRY1 := by
  refine aGho_of ⟨rfl, rfl⟩ ?_
  intro p σ ρ hH hX hA hM0
  have hG := aAG_of hA.1 (fun i e v he hv => (hA.2 i e v he hv).1)
  clear hA
  obtain ⟨v0, v1, v2, v3, v4, v5, v6, rfl, g0, g1, g2, g3, g4, g5, g6⟩ := rA_7 hG
  clear hG
  obtain ⟨x0, rfl, b0, d0⟩ := aG_int g0
  dsimp only at b0 d0
  obtain ⟨x1, rfl, b1, d1⟩ := aG_int g1
  dsimp only at b1 d1
  obtain ⟨x2, rfl, b2, d2⟩ := aG_int g2
  dsimp only at b2 d2
  obtain ⟨x3, rfl, b3, d3⟩ := aG_int g3
  dsimp only at b3 d3
  obtain ⟨x4, rfl, b4, d4⟩ := aG_int g4
  dsimp only at b4 d4
  obtain ⟨x5, rfl, b5, d5⟩ := aG_int g5
  dsimp only at b5 d5
  obtain ⟨x6, rfl, b6, d6⟩ := aG_int g6
  dsimp only at b6 d6
  obtain ⟨m1, m2, m3, m4⟩ := hM0
  have l0 : 0 ≤ (1 * x4.toInt + 0) + 0 := by
    obtain ⟨z, e6, e7⟩ := m3 ([(4, 1)], 0) (List.mem_of_getElem? (i := 0) rfl)
    obtain rfl : (1 * x4.toInt + 0) = z := Option.some.inj (show some (1 * x4.toInt + 0) = some z from e6)
    exact e7
  have l1 : 0 ≤ (-1 * x4.toInt + 0) + 0 := by
    obtain ⟨z, e6, e7⟩ := m3 ([(4, -1)], 0) (List.mem_of_getElem? (i := 1) rfl)
    obtain rfl : (-1 * x4.toInt + 0) = z := Option.some.inj (show some (-1 * x4.toInt + 0) = some z from e6)
    exact e7
  have l2 : 0 ≤ (-1 * x5.toInt + 0) + -1 := by
    obtain ⟨z, e6, e7⟩ := m3 ([(5, -1)], -1) (List.mem_of_getElem? (i := 2) rfl)
    obtain rfl : (-1 * x5.toInt + 0) = z := Option.some.inj (show some (-1 * x5.toInt + 0) = some z from e6)
    exact e7
  have f0 : rB3 N K n p 226 [rI x0, rI x1, rI x4, rI x5] σ := by
    obtain ⟨w, e6, e7⟩ := m4 (3620, [0, 1, 4, 5]) (List.mem_of_getElem? (i := 0) rfl)
    obtain rfl : [rI x0, rI x1, rI x4, rI x5] = w := Option.some.inj (show some [rI x0, rI x1, rI x4, rI x5] = some w from e6)
    exact (rF_b (r := 3620) (by decide) rfl).mp e7
  have f0 := ro3_226.mp f0
  have f1 : rB3 N K n p 120 [rI x0, rI x2, rI x3, rI x6] σ := by
    obtain ⟨w, e6, e7⟩ := m4 (1924, [0, 2, 3, 6]) (List.mem_of_getElem? (i := 1) rfl)
    obtain rfl : [rI x0, rI x2, rI x3, rI x6] = w := Option.some.inj (show some [rI x0, rI x2, rI x3, rI x6] = some w from e6)
    exact (rF_b (r := 1924) (by decide) rfl).mp e7
  have f1 := ro3_120.mp f1
  clear m1 m2 m3 m4
  have r0 : 0 ≤ (1 * x6.toInt + 0) + 0 := by
    have e : x6.toInt = x0.toInt + 0 + 8 * (-1) := by
      have h := f1
      rw [show x2.toInt = 0 by omega, show x3.toInt = -1 by omega] at h
      unfold rSp at h
      rw [if_pos (by omega)] at h
      exact h
    omega
  have q0 : rB3 N K n p 342 [rI x0, rI x1, rI x2, rI x3, rI x6] σ := ro3_342.mpr (by
    have e : x6.toInt = x0.toInt + 0 + 8 * (-1) := by
      have h := f1
      rw [show x2.toInt = 0 by omega, show x3.toInt = -1 by omega] at h
      unfold rSp at h
      rw [if_pos (by omega)] at h
      exact h
    refine ⟨by omega, by omega, by omega, by omega, by omega, d6, (-1 * x5.toInt) - 1, by omega, ?_, ?_⟩
    · rw [show x2.toInt = 0 by omega]
      omega
    · rw [show x3.toInt = -1 by omega]
      omega)
  exact ⟨p, fun _ => rfl, ⟨(fun q h => by cases h), fun q h => (by cases h), (aAllc ⟨_, rfl, r0⟩ (fun f h => by cases h)), (aAllc ⟨_, rfl, (rF_b (r := 5477) (by decide) rfl).mpr q0⟩ (fun f h => by cases h))⟩, [], List.mem_cons_self, fun f h => (by cases h)⟩
theorem rw_rkRY2 {N : Int} {K : Nat → Nat} {n : Nat} {JX : (Nat → jcell) → Prop} : aGho (rH N K n) fa_T K n JX ag_rkRY2 := by
  refine aGho_of ⟨rfl, rfl⟩ ?_
  intro p σ ρ hH hX hA hM0
  have hG := aAG_of hA.1 (fun i e v he hv => (hA.2 i e v he hv).1)
  clear hA
  obtain ⟨v0, v1, v2, v3, v4, v5, v6, rfl, g0, g1, g2, g3, g4, g5, g6⟩ := rA_7 hG
  clear hG
  obtain ⟨x0, rfl, b0, d0⟩ := aG_int g0
  dsimp only at b0 d0
  obtain ⟨x1, rfl, b1, d1⟩ := aG_int g1
  dsimp only at b1 d1
  obtain ⟨x2, rfl, b2, d2⟩ := aG_int g2
  dsimp only at b2 d2
  obtain ⟨x3, rfl, b3, d3⟩ := aG_int g3
  dsimp only at b3 d3
  obtain ⟨x4, rfl, b4, d4⟩ := aG_int g4
  dsimp only at b4 d4
  obtain ⟨x5, rfl, b5, d5⟩ := aG_int g5
  dsimp only at b5 d5
  obtain ⟨x6, rfl, b6, d6⟩ := aG_int g6
  dsimp only at b6 d6
  obtain ⟨m1, m2, m3, m4⟩ := hM0
  have l0 : 0 ≤ (1 * x4.toInt + 0) + -1 := by
    obtain ⟨z, e6, e7⟩ := m3 ([(4, 1)], -1) (List.mem_of_getElem? (i := 0) rfl)
    obtain rfl : (1 * x4.toInt + 0) = z := Option.some.inj (show some (1 * x4.toInt + 0) = some z from e6)
    exact e7
  have l1 : 0 ≤ (1 * x5.toInt + 0) + 0 := by
    obtain ⟨z, e6, e7⟩ := m3 ([(5, 1)], 0) (List.mem_of_getElem? (i := 1) rfl)
    obtain rfl : (1 * x5.toInt + 0) = z := Option.some.inj (show some (1 * x5.toInt + 0) = some z from e6)
    exact e7
  have l2 : 0 ≤ (-1 * x5.toInt + 0) + 0 := by
    obtain ⟨z, e6, e7⟩ := m3 ([(5, -1)], 0) (List.mem_of_getElem? (i := 2) rfl)
    obtain rfl : (-1 * x5.toInt + 0) = z := Option.some.inj (show some (-1 * x5.toInt + 0) = some z from e6)
    exact e7
  have f0 : rB3 N K n p 226 [rI x0, rI x1, rI x4, rI x5] σ := by
    obtain ⟨w, e6, e7⟩ := m4 (3620, [0, 1, 4, 5]) (List.mem_of_getElem? (i := 0) rfl)
    obtain rfl : [rI x0, rI x1, rI x4, rI x5] = w := Option.some.inj (show some [rI x0, rI x1, rI x4, rI x5] = some w from e6)
    exact (rF_b (r := 3620) (by decide) rfl).mp e7
  have f0 := ro3_226.mp f0
  have f1 : rB3 N K n p 120 [rI x0, rI x2, rI x3, rI x6] σ := by
    obtain ⟨w, e6, e7⟩ := m4 (1924, [0, 2, 3, 6]) (List.mem_of_getElem? (i := 1) rfl)
    obtain rfl : [rI x0, rI x2, rI x3, rI x6] = w := Option.some.inj (show some [rI x0, rI x2, rI x3, rI x6] = some w from e6)
    exact (rF_b (r := 1924) (by decide) rfl).mp e7
  have f1 := ro3_120.mp f1
  clear m1 m2 m3 m4
  have r0 : 0 ≤ (1 * x6.toInt + 0) + 0 := by
    have e : x6.toInt = x0.toInt + 1 + 8 * 0 := by
      have h := f1
      rw [show x2.toInt = 1 by omega, show x3.toInt = 0 by omega] at h
      unfold rSp at h
      rw [if_pos (by omega)] at h
      exact h
    omega
  have q0 : rB3 N K n p 342 [rI x0, rI x1, rI x2, rI x3, rI x6] σ := ro3_342.mpr (by
    have e : x6.toInt = x0.toInt + 1 + 8 * 0 := by
      have h := f1
      rw [show x2.toInt = 1 by omega, show x3.toInt = 0 by omega] at h
      unfold rSp at h
      rw [if_pos (by omega)] at h
      exact h
    refine ⟨by omega, by omega, by omega, by omega, by omega, d6, (1 * x4.toInt) - 1, by omega, ?_, ?_⟩
    · rw [show x2.toInt = 1 by omega]
      omega
    · rw [show x3.toInt = 0 by omega]
      omega)
  exact ⟨p, fun _ => rfl, ⟨(fun q h => by cases h), fun q h => (by cases h), (aAllc ⟨_, rfl, r0⟩ (fun f h => by cases h)), (aAllc ⟨_, rfl, (rF_b (r := 5477) (by decide) rfl).mpr q0⟩ (fun f h => by cases h))⟩, [], List.mem_cons_self, fun f h => (by cases h)⟩
theorem rw_rkRY3 {N : Int} {K : Nat → Nat} {n : Nat} {JX : (Nat → jcell) → Prop} : aGho (rH N K n) fa_T K n JX ag_rkRY3 := by
  refine aGho_of ⟨rfl, rfl⟩ ?_
  intro p σ ρ hH hX hA hM0
  have hG := aAG_of hA.1 (fun i e v he hv => (hA.2 i e v he hv).1)
  clear hA
  obtain ⟨v0, v1, v2, v3, v4, v5, v6, rfl, g0, g1, g2, g3, g4, g5, g6⟩ := rA_7 hG
  clear hG
  obtain ⟨x0, rfl, b0, d0⟩ := aG_int g0
  dsimp only at b0 d0
  obtain ⟨x1, rfl, b1, d1⟩ := aG_int g1
  dsimp only at b1 d1
  obtain ⟨x2, rfl, b2, d2⟩ := aG_int g2
  dsimp only at b2 d2
  obtain ⟨x3, rfl, b3, d3⟩ := aG_int g3
  dsimp only at b3 d3
  obtain ⟨x4, rfl, b4, d4⟩ := aG_int g4
  dsimp only at b4 d4
  obtain ⟨x5, rfl, b5, d5⟩ := aG_int g5
  dsimp only at b5 d5
  obtain ⟨x6, rfl, b6, d6⟩ := aG_int g6
  dsimp only at b6 d6
  obtain ⟨m1, m2, m3, m4⟩ := hM0
  have l0 : 0 ≤ (-1 * x4.toInt + 0) + -1 := by
    obtain ⟨z, e6, e7⟩ := m3 ([(4, -1)], -1) (List.mem_of_getElem? (i := 0) rfl)
    obtain rfl : (-1 * x4.toInt + 0) = z := Option.some.inj (show some (-1 * x4.toInt + 0) = some z from e6)
    exact e7
  have l1 : 0 ≤ (1 * x5.toInt + 0) + 0 := by
    obtain ⟨z, e6, e7⟩ := m3 ([(5, 1)], 0) (List.mem_of_getElem? (i := 1) rfl)
    obtain rfl : (1 * x5.toInt + 0) = z := Option.some.inj (show some (1 * x5.toInt + 0) = some z from e6)
    exact e7
  have l2 : 0 ≤ (-1 * x5.toInt + 0) + 0 := by
    obtain ⟨z, e6, e7⟩ := m3 ([(5, -1)], 0) (List.mem_of_getElem? (i := 2) rfl)
    obtain rfl : (-1 * x5.toInt + 0) = z := Option.some.inj (show some (-1 * x5.toInt + 0) = some z from e6)
    exact e7
  have f0 : rB3 N K n p 226 [rI x0, rI x1, rI x4, rI x5] σ := by
    obtain ⟨w, e6, e7⟩ := m4 (3620, [0, 1, 4, 5]) (List.mem_of_getElem? (i := 0) rfl)
    obtain rfl : [rI x0, rI x1, rI x4, rI x5] = w := Option.some.inj (show some [rI x0, rI x1, rI x4, rI x5] = some w from e6)
    exact (rF_b (r := 3620) (by decide) rfl).mp e7
  have f0 := ro3_226.mp f0
  have f1 : rB3 N K n p 120 [rI x0, rI x2, rI x3, rI x6] σ := by
    obtain ⟨w, e6, e7⟩ := m4 (1924, [0, 2, 3, 6]) (List.mem_of_getElem? (i := 1) rfl)
    obtain rfl : [rI x0, rI x2, rI x3, rI x6] = w := Option.some.inj (show some [rI x0, rI x2, rI x3, rI x6] = some w from e6)
    exact (rF_b (r := 1924) (by decide) rfl).mp e7
  have f1 := ro3_120.mp f1
  clear m1 m2 m3 m4
  have r0 : 0 ≤ (1 * x6.toInt + 0) + 0 := by
    have e : x6.toInt = x0.toInt + -1 + 8 * 0 := by
      have h := f1
      rw [show x2.toInt = -1 by omega, show x3.toInt = 0 by omega] at h
      unfold rSp at h
      rw [if_pos (by omega)] at h
      exact h
    omega
  have q0 : rB3 N K n p 342 [rI x0, rI x1, rI x2, rI x3, rI x6] σ := ro3_342.mpr (by
    have e : x6.toInt = x0.toInt + -1 + 8 * 0 := by
      have h := f1
      rw [show x2.toInt = -1 by omega, show x3.toInt = 0 by omega] at h
      unfold rSp at h
      rw [if_pos (by omega)] at h
      exact h
    refine ⟨by omega, by omega, by omega, by omega, by omega, d6, (-1 * x4.toInt) - 1, by omega, ?_, ?_⟩
    · rw [show x2.toInt = -1 by omega]
      omega
    · rw [show x3.toInt = 0 by omega]
      omega)
  exact ⟨p, fun _ => rfl, ⟨(fun q h => by cases h), fun q h => (by cases h), (aAllc ⟨_, rfl, r0⟩ (fun f h => by cases h)), (aAllc ⟨_, rfl, (rF_b (r := 5477) (by decide) rfl).mpr q0⟩ (fun f h => by cases h))⟩, [], List.mem_cons_self, fun f h => (by cases h)⟩
theorem rw_rkRY4 {N : Int} {K : Nat → Nat} {n : Nat} {JX : (Nat → jcell) → Prop} : aGho (rH N K n) fa_T K n JX ag_rkRY4 := by
  refine aGho_of ⟨rfl, rfl⟩ ?_
  intro p σ ρ hH hX hA hM0
  have hG := aAG_of hA.1 (fun i e v he hv => (hA.2 i e v he hv).1)
  clear hA
  obtain ⟨v0, v1, v2, v3, v4, v5, v6, rfl, g0, g1, g2, g3, g4, g5, g6⟩ := rA_7 hG
  clear hG
  obtain ⟨x0, rfl, b0, d0⟩ := aG_int g0
  dsimp only at b0 d0
  obtain ⟨x1, rfl, b1, d1⟩ := aG_int g1
  dsimp only at b1 d1
  obtain ⟨x2, rfl, b2, d2⟩ := aG_int g2
  dsimp only at b2 d2
  obtain ⟨x3, rfl, b3, d3⟩ := aG_int g3
  dsimp only at b3 d3
  obtain ⟨x4, rfl, b4, d4⟩ := aG_int g4
  dsimp only at b4 d4
  obtain ⟨x5, rfl, b5, d5⟩ := aG_int g5
  dsimp only at b5 d5
  obtain ⟨x6, rfl, b6, d6⟩ := aG_int g6
  dsimp only at b6 d6
  obtain ⟨m1, m2, m3, m4⟩ := hM0
  have l0 : 0 ≤ (1 * x4.toInt + 0) + -1 := by
    obtain ⟨z, e6, e7⟩ := m3 ([(4, 1)], -1) (List.mem_of_getElem? (i := 0) rfl)
    obtain rfl : (1 * x4.toInt + 0) = z := Option.some.inj (show some (1 * x4.toInt + 0) = some z from e6)
    exact e7
  have l1 : 0 ≤ (1 * x5.toInt + 0) + -1 := by
    obtain ⟨z, e6, e7⟩ := m3 ([(5, 1)], -1) (List.mem_of_getElem? (i := 1) rfl)
    obtain rfl : (1 * x5.toInt + 0) = z := Option.some.inj (show some (1 * x5.toInt + 0) = some z from e6)
    exact e7
  have l2 : 0 ≤ (1 * x4.toInt + (-1 * x5.toInt + 0)) + 0 := by
    obtain ⟨z, e6, e7⟩ := m3 ([(4, 1), (5, -1)], 0) (List.mem_of_getElem? (i := 2) rfl)
    obtain rfl : (1 * x4.toInt + (-1 * x5.toInt + 0)) = z := Option.some.inj (show some (1 * x4.toInt + (-1 * x5.toInt + 0)) = some z from e6)
    exact e7
  have l3 : 0 ≤ (-1 * x4.toInt + (1 * x5.toInt + 0)) + 0 := by
    obtain ⟨z, e6, e7⟩ := m3 ([(4, -1), (5, 1)], 0) (List.mem_of_getElem? (i := 3) rfl)
    obtain rfl : (-1 * x4.toInt + (1 * x5.toInt + 0)) = z := Option.some.inj (show some (-1 * x4.toInt + (1 * x5.toInt + 0)) = some z from e6)
    exact e7
  have f0 : rB3 N K n p 226 [rI x0, rI x1, rI x4, rI x5] σ := by
    obtain ⟨w, e6, e7⟩ := m4 (3620, [0, 1, 4, 5]) (List.mem_of_getElem? (i := 0) rfl)
    obtain rfl : [rI x0, rI x1, rI x4, rI x5] = w := Option.some.inj (show some [rI x0, rI x1, rI x4, rI x5] = some w from e6)
    exact (rF_b (r := 3620) (by decide) rfl).mp e7
  have f0 := ro3_226.mp f0
  have f1 : rB3 N K n p 120 [rI x0, rI x2, rI x3, rI x6] σ := by
    obtain ⟨w, e6, e7⟩ := m4 (1924, [0, 2, 3, 6]) (List.mem_of_getElem? (i := 1) rfl)
    obtain rfl : [rI x0, rI x2, rI x3, rI x6] = w := Option.some.inj (show some [rI x0, rI x2, rI x3, rI x6] = some w from e6)
    exact (rF_b (r := 1924) (by decide) rfl).mp e7
  have f1 := ro3_120.mp f1
  clear m1 m2 m3 m4
  have r0 : 0 ≤ (1 * x6.toInt + 0) + 0 := by
    have e : x6.toInt = x0.toInt + 1 + 8 * 1 := by
      have h := f1
      rw [show x2.toInt = 1 by omega, show x3.toInt = 1 by omega] at h
      unfold rSp at h
      rw [if_pos (by omega)] at h
      exact h
    omega
  have q0 : rB3 N K n p 342 [rI x0, rI x1, rI x2, rI x3, rI x6] σ := ro3_342.mpr (by
    have e : x6.toInt = x0.toInt + 1 + 8 * 1 := by
      have h := f1
      rw [show x2.toInt = 1 by omega, show x3.toInt = 1 by omega] at h
      unfold rSp at h
      rw [if_pos (by omega)] at h
      exact h
    refine ⟨by omega, by omega, by omega, by omega, by omega, d6, (1 * x4.toInt) - 1, by omega, ?_, ?_⟩
    · rw [show x2.toInt = 1 by omega]
      omega
    · rw [show x3.toInt = 1 by omega]
      omega)
  exact ⟨p, fun _ => rfl, ⟨(fun q h => by cases h), fun q h => (by cases h), (aAllc ⟨_, rfl, r0⟩ (fun f h => by cases h)), (aAllc ⟨_, rfl, (rF_b (r := 5477) (by decide) rfl).mpr q0⟩ (fun f h => by cases h))⟩, [], List.mem_cons_self, fun f h => (by cases h)⟩
theorem rw_rkRY5 {N : Int} {K : Nat → Nat} {n : Nat} {JX : (Nat → jcell) → Prop} : aGho (rH N K n) fa_T K n JX ag_rkRY5 := by
  refine aGho_of ⟨rfl, rfl⟩ ?_
  intro p σ ρ hH hX hA hM0
  have hG := aAG_of hA.1 (fun i e v he hv => (hA.2 i e v he hv).1)
  clear hA
  obtain ⟨v0, v1, v2, v3, v4, v5, v6, rfl, g0, g1, g2, g3, g4, g5, g6⟩ := rA_7 hG
  clear hG
  obtain ⟨x0, rfl, b0, d0⟩ := aG_int g0
  dsimp only at b0 d0
  obtain ⟨x1, rfl, b1, d1⟩ := aG_int g1
  dsimp only at b1 d1
  obtain ⟨x2, rfl, b2, d2⟩ := aG_int g2
  dsimp only at b2 d2
  obtain ⟨x3, rfl, b3, d3⟩ := aG_int g3
  dsimp only at b3 d3
  obtain ⟨x4, rfl, b4, d4⟩ := aG_int g4
  dsimp only at b4 d4
  obtain ⟨x5, rfl, b5, d5⟩ := aG_int g5
  dsimp only at b5 d5
  obtain ⟨x6, rfl, b6, d6⟩ := aG_int g6
  dsimp only at b6 d6
  obtain ⟨m1, m2, m3, m4⟩ := hM0
  have l0 : 0 ≤ (-1 * x4.toInt + 0) + -1 := by
    obtain ⟨z, e6, e7⟩ := m3 ([(4, -1)], -1) (List.mem_of_getElem? (i := 0) rfl)
    obtain rfl : (-1 * x4.toInt + 0) = z := Option.some.inj (show some (-1 * x4.toInt + 0) = some z from e6)
    exact e7
  have l1 : 0 ≤ (-1 * x5.toInt + 0) + -1 := by
    obtain ⟨z, e6, e7⟩ := m3 ([(5, -1)], -1) (List.mem_of_getElem? (i := 1) rfl)
    obtain rfl : (-1 * x5.toInt + 0) = z := Option.some.inj (show some (-1 * x5.toInt + 0) = some z from e6)
    exact e7
  have l2 : 0 ≤ (-1 * x4.toInt + (1 * x5.toInt + 0)) + 0 := by
    obtain ⟨z, e6, e7⟩ := m3 ([(4, -1), (5, 1)], 0) (List.mem_of_getElem? (i := 2) rfl)
    obtain rfl : (-1 * x4.toInt + (1 * x5.toInt + 0)) = z := Option.some.inj (show some (-1 * x4.toInt + (1 * x5.toInt + 0)) = some z from e6)
    exact e7
  have l3 : 0 ≤ (1 * x4.toInt + (-1 * x5.toInt + 0)) + 0 := by
    obtain ⟨z, e6, e7⟩ := m3 ([(4, 1), (5, -1)], 0) (List.mem_of_getElem? (i := 3) rfl)
    obtain rfl : (1 * x4.toInt + (-1 * x5.toInt + 0)) = z := Option.some.inj (show some (1 * x4.toInt + (-1 * x5.toInt + 0)) = some z from e6)
    exact e7
  have f0 : rB3 N K n p 226 [rI x0, rI x1, rI x4, rI x5] σ := by
    obtain ⟨w, e6, e7⟩ := m4 (3620, [0, 1, 4, 5]) (List.mem_of_getElem? (i := 0) rfl)
    obtain rfl : [rI x0, rI x1, rI x4, rI x5] = w := Option.some.inj (show some [rI x0, rI x1, rI x4, rI x5] = some w from e6)
    exact (rF_b (r := 3620) (by decide) rfl).mp e7
  have f0 := ro3_226.mp f0
  have f1 : rB3 N K n p 120 [rI x0, rI x2, rI x3, rI x6] σ := by
    obtain ⟨w, e6, e7⟩ := m4 (1924, [0, 2, 3, 6]) (List.mem_of_getElem? (i := 1) rfl)
    obtain rfl : [rI x0, rI x2, rI x3, rI x6] = w := Option.some.inj (show some [rI x0, rI x2, rI x3, rI x6] = some w from e6)
    exact (rF_b (r := 1924) (by decide) rfl).mp e7
  have f1 := ro3_120.mp f1
  clear m1 m2 m3 m4
  have r0 : 0 ≤ (1 * x6.toInt + 0) + 0 := by
    have e : x6.toInt = x0.toInt + -1 + 8 * (-1) := by
      have h := f1
      rw [show x2.toInt = -1 by omega, show x3.toInt = -1 by omega] at h
      unfold rSp at h
      rw [if_pos (by omega)] at h
      exact h
    omega
  have q0 : rB3 N K n p 342 [rI x0, rI x1, rI x2, rI x3, rI x6] σ := ro3_342.mpr (by
    have e : x6.toInt = x0.toInt + -1 + 8 * (-1) := by
      have h := f1
      rw [show x2.toInt = -1 by omega, show x3.toInt = -1 by omega] at h
      unfold rSp at h
      rw [if_pos (by omega)] at h
      exact h
    refine ⟨by omega, by omega, by omega, by omega, by omega, d6, (-1 * x4.toInt) - 1, by omega, ?_, ?_⟩
    · rw [show x2.toInt = -1 by omega]
      omega
    · rw [show x3.toInt = -1 by omega]
      omega)
  exact ⟨p, fun _ => rfl, ⟨(fun q h => by cases h), fun q h => (by cases h), (aAllc ⟨_, rfl, r0⟩ (fun f h => by cases h)), (aAllc ⟨_, rfl, (rF_b (r := 5477) (by decide) rfl).mpr q0⟩ (fun f h => by cases h))⟩, [], List.mem_cons_self, fun f h => (by cases h)⟩
theorem rw_rkRY6 {N : Int} {K : Nat → Nat} {n : Nat} {JX : (Nat → jcell) → Prop} : aGho (rH N K n) fa_T K n JX ag_rkRY6 := by
  refine aGho_of ⟨rfl, rfl⟩ ?_
  intro p σ ρ hH hX hA hM0
  have hG := aAG_of hA.1 (fun i e v he hv => (hA.2 i e v he hv).1)
  clear hA
  obtain ⟨v0, v1, v2, v3, v4, v5, v6, rfl, g0, g1, g2, g3, g4, g5, g6⟩ := rA_7 hG
  clear hG
  obtain ⟨x0, rfl, b0, d0⟩ := aG_int g0
  dsimp only at b0 d0
  obtain ⟨x1, rfl, b1, d1⟩ := aG_int g1
  dsimp only at b1 d1
  obtain ⟨x2, rfl, b2, d2⟩ := aG_int g2
  dsimp only at b2 d2
  obtain ⟨x3, rfl, b3, d3⟩ := aG_int g3
  dsimp only at b3 d3
  obtain ⟨x4, rfl, b4, d4⟩ := aG_int g4
  dsimp only at b4 d4
  obtain ⟨x5, rfl, b5, d5⟩ := aG_int g5
  dsimp only at b5 d5
  obtain ⟨x6, rfl, b6, d6⟩ := aG_int g6
  dsimp only at b6 d6
  obtain ⟨m1, m2, m3, m4⟩ := hM0
  have l0 : 0 ≤ (1 * x4.toInt + 0) + -1 := by
    obtain ⟨z, e6, e7⟩ := m3 ([(4, 1)], -1) (List.mem_of_getElem? (i := 0) rfl)
    obtain rfl : (1 * x4.toInt + 0) = z := Option.some.inj (show some (1 * x4.toInt + 0) = some z from e6)
    exact e7
  have l1 : 0 ≤ (-1 * x5.toInt + 0) + -1 := by
    obtain ⟨z, e6, e7⟩ := m3 ([(5, -1)], -1) (List.mem_of_getElem? (i := 1) rfl)
    obtain rfl : (-1 * x5.toInt + 0) = z := Option.some.inj (show some (-1 * x5.toInt + 0) = some z from e6)
    exact e7
  have l2 : 0 ≤ (1 * x4.toInt + (1 * x5.toInt + 0)) + 0 := by
    obtain ⟨z, e6, e7⟩ := m3 ([(4, 1), (5, 1)], 0) (List.mem_of_getElem? (i := 2) rfl)
    obtain rfl : (1 * x4.toInt + (1 * x5.toInt + 0)) = z := Option.some.inj (show some (1 * x4.toInt + (1 * x5.toInt + 0)) = some z from e6)
    exact e7
  have l3 : 0 ≤ (-1 * x4.toInt + (-1 * x5.toInt + 0)) + 0 := by
    obtain ⟨z, e6, e7⟩ := m3 ([(4, -1), (5, -1)], 0) (List.mem_of_getElem? (i := 3) rfl)
    obtain rfl : (-1 * x4.toInt + (-1 * x5.toInt + 0)) = z := Option.some.inj (show some (-1 * x4.toInt + (-1 * x5.toInt + 0)) = some z from e6)
    exact e7
  have f0 : rB3 N K n p 226 [rI x0, rI x1, rI x4, rI x5] σ := by
    obtain ⟨w, e6, e7⟩ := m4 (3620, [0, 1, 4, 5]) (List.mem_of_getElem? (i := 0) rfl)
    obtain rfl : [rI x0, rI x1, rI x4, rI x5] = w := Option.some.inj (show some [rI x0, rI x1, rI x4, rI x5] = some w from e6)
    exact (rF_b (r := 3620) (by decide) rfl).mp e7
  have f0 := ro3_226.mp f0
  have f1 : rB3 N K n p 120 [rI x0, rI x2, rI x3, rI x6] σ := by
    obtain ⟨w, e6, e7⟩ := m4 (1924, [0, 2, 3, 6]) (List.mem_of_getElem? (i := 1) rfl)
    obtain rfl : [rI x0, rI x2, rI x3, rI x6] = w := Option.some.inj (show some [rI x0, rI x2, rI x3, rI x6] = some w from e6)
    exact (rF_b (r := 1924) (by decide) rfl).mp e7
  have f1 := ro3_120.mp f1
  clear m1 m2 m3 m4
  have r0 : 0 ≤ (1 * x6.toInt + 0) + 0 := by
    have e : x6.toInt = x0.toInt + 1 + 8 * (-1) := by
      have h := f1
      rw [show x2.toInt = 1 by omega, show x3.toInt = -1 by omega] at h
      unfold rSp at h
      rw [if_pos (by omega)] at h
      exact h
    omega
  have q0 : rB3 N K n p 342 [rI x0, rI x1, rI x2, rI x3, rI x6] σ := ro3_342.mpr (by
    have e : x6.toInt = x0.toInt + 1 + 8 * (-1) := by
      have h := f1
      rw [show x2.toInt = 1 by omega, show x3.toInt = -1 by omega] at h
      unfold rSp at h
      rw [if_pos (by omega)] at h
      exact h
    refine ⟨by omega, by omega, by omega, by omega, by omega, d6, (1 * x4.toInt) - 1, by omega, ?_, ?_⟩
    · rw [show x2.toInt = 1 by omega]
      omega
    · rw [show x3.toInt = -1 by omega]
      omega)
  exact ⟨p, fun _ => rfl, ⟨(fun q h => by cases h), fun q h => (by cases h), (aAllc ⟨_, rfl, r0⟩ (fun f h => by cases h)), (aAllc ⟨_, rfl, (rF_b (r := 5477) (by decide) rfl).mpr q0⟩ (fun f h => by cases h))⟩, [], List.mem_cons_self, fun f h => (by cases h)⟩
theorem rw_rkRY7 {N : Int} {K : Nat → Nat} {n : Nat} {JX : (Nat → jcell) → Prop} : aGho (rH N K n) fa_T K n JX ag_rkRY7 := by
  refine aGho_of ⟨rfl, rfl⟩ ?_
  intro p σ ρ hH hX hA hM0
  have hG := aAG_of hA.1 (fun i e v he hv => (hA.2 i e v he hv).1)
  clear hA
  obtain ⟨v0, v1, v2, v3, v4, v5, v6, rfl, g0, g1, g2, g3, g4, g5, g6⟩ := rA_7 hG
  clear hG
  obtain ⟨x0, rfl, b0, d0⟩ := aG_int g0
  dsimp only at b0 d0
  obtain ⟨x1, rfl, b1, d1⟩ := aG_int g1
  dsimp only at b1 d1
  obtain ⟨x2, rfl, b2, d2⟩ := aG_int g2
  dsimp only at b2 d2
  obtain ⟨x3, rfl, b3, d3⟩ := aG_int g3
  dsimp only at b3 d3
  obtain ⟨x4, rfl, b4, d4⟩ := aG_int g4
  dsimp only at b4 d4
  obtain ⟨x5, rfl, b5, d5⟩ := aG_int g5
  dsimp only at b5 d5
  obtain ⟨x6, rfl, b6, d6⟩ := aG_int g6
  dsimp only at b6 d6
  obtain ⟨m1, m2, m3, m4⟩ := hM0
  have l0 : 0 ≤ (-1 * x4.toInt + 0) + -1 := by
    obtain ⟨z, e6, e7⟩ := m3 ([(4, -1)], -1) (List.mem_of_getElem? (i := 0) rfl)
    obtain rfl : (-1 * x4.toInt + 0) = z := Option.some.inj (show some (-1 * x4.toInt + 0) = some z from e6)
    exact e7
  have l1 : 0 ≤ (1 * x5.toInt + 0) + -1 := by
    obtain ⟨z, e6, e7⟩ := m3 ([(5, 1)], -1) (List.mem_of_getElem? (i := 1) rfl)
    obtain rfl : (1 * x5.toInt + 0) = z := Option.some.inj (show some (1 * x5.toInt + 0) = some z from e6)
    exact e7
  have l2 : 0 ≤ (-1 * x4.toInt + (-1 * x5.toInt + 0)) + 0 := by
    obtain ⟨z, e6, e7⟩ := m3 ([(4, -1), (5, -1)], 0) (List.mem_of_getElem? (i := 2) rfl)
    obtain rfl : (-1 * x4.toInt + (-1 * x5.toInt + 0)) = z := Option.some.inj (show some (-1 * x4.toInt + (-1 * x5.toInt + 0)) = some z from e6)
    exact e7
  have l3 : 0 ≤ (1 * x4.toInt + (1 * x5.toInt + 0)) + 0 := by
    obtain ⟨z, e6, e7⟩ := m3 ([(4, 1), (5, 1)], 0) (List.mem_of_getElem? (i := 3) rfl)
    obtain rfl : (1 * x4.toInt + (1 * x5.toInt + 0)) = z := Option.some.inj (show some (1 * x4.toInt + (1 * x5.toInt + 0)) = some z from e6)
    exact e7
  have f0 : rB3 N K n p 226 [rI x0, rI x1, rI x4, rI x5] σ := by
    obtain ⟨w, e6, e7⟩ := m4 (3620, [0, 1, 4, 5]) (List.mem_of_getElem? (i := 0) rfl)
    obtain rfl : [rI x0, rI x1, rI x4, rI x5] = w := Option.some.inj (show some [rI x0, rI x1, rI x4, rI x5] = some w from e6)
    exact (rF_b (r := 3620) (by decide) rfl).mp e7
  have f0 := ro3_226.mp f0
  have f1 : rB3 N K n p 120 [rI x0, rI x2, rI x3, rI x6] σ := by
    obtain ⟨w, e6, e7⟩ := m4 (1924, [0, 2, 3, 6]) (List.mem_of_getElem? (i := 1) rfl)
    obtain rfl : [rI x0, rI x2, rI x3, rI x6] = w := Option.some.inj (show some [rI x0, rI x2, rI x3, rI x6] = some w from e6)
    exact (rF_b (r := 1924) (by decide) rfl).mp e7
  have f1 := ro3_120.mp f1
  clear m1 m2 m3 m4
  have r0 : 0 ≤ (1 * x6.toInt + 0) + 0 := by
    have e : x6.toInt = x0.toInt + -1 + 8 * 1 := by
      have h := f1
      rw [show x2.toInt = -1 by omega, show x3.toInt = 1 by omega] at h
      unfold rSp at h
      rw [if_pos (by omega)] at h
      exact h
    omega
  have q0 : rB3 N K n p 342 [rI x0, rI x1, rI x2, rI x3, rI x6] σ := ro3_342.mpr (by
    have e : x6.toInt = x0.toInt + -1 + 8 * 1 := by
      have h := f1
      rw [show x2.toInt = -1 by omega, show x3.toInt = 1 by omega] at h
      unfold rSp at h
      rw [if_pos (by omega)] at h
      exact h
    refine ⟨by omega, by omega, by omega, by omega, by omega, d6, (-1 * x4.toInt) - 1, by omega, ?_, ?_⟩
    · rw [show x2.toInt = -1 by omega]
      omega
    · rw [show x3.toInt = 1 by omega]
      omega)
  exact ⟨p, fun _ => rfl, ⟨(fun q h => by cases h), fun q h => (by cases h), (aAllc ⟨_, rfl, r0⟩ (fun f h => by cases h)), (aAllc ⟨_, rfl, (rF_b (r := 5477) (by decide) rfl).mpr q0⟩ (fun f h => by cases h))⟩, [], List.mem_cons_self, fun f h => (by cases h)⟩
theorem rw_rkRYnu {N : Int} {K : Nat → Nat} {n : Nat} {JX : (Nat → jcell) → Prop} : aGho (rH N K n) fa_T K n JX ag_rkRYnu := by
  refine aGho_of ⟨rfl, rfl⟩ ?_
  intro p σ ρ hH hX hA hM0
  have hG := aAG_of hA.1 (fun i e v he hv => (hA.2 i e v he hv).1)
  clear hA
  obtain ⟨v0, v1, v2, v3, v4, v5, rfl, g0, g1, g2, g3, g4, g5⟩ := rA_6 hG
  clear hG
  obtain ⟨x0, rfl, b0, d0⟩ := aG_int g0
  dsimp only at b0 d0
  obtain ⟨x1, rfl, b1, d1⟩ := aG_int g1
  dsimp only at b1 d1
  obtain ⟨x2, rfl, b2, d2⟩ := aG_int g2
  dsimp only at b2 d2
  obtain ⟨x3, rfl, b3, d3⟩ := aG_int g3
  dsimp only at b3 d3
  obtain ⟨x4, rfl, b4, d4⟩ := aG_int g4
  dsimp only at b4 d4
  obtain ⟨x5, rfl, b5, d5⟩ := aG_int g5
  dsimp only at b5 d5
  obtain ⟨m1, m2, m3, m4⟩ := hM0
  have l0 : 0 ≤ (1 * x4.toInt + (-1 * x1.toInt + 0)) + -1 := by
    obtain ⟨z, e6, e7⟩ := m3 ([(4, 1), (1, -1)], -1) (List.mem_of_getElem? (i := 0) rfl)
    obtain rfl : (1 * x4.toInt + (-1 * x1.toInt + 0)) = z := Option.some.inj (show some (1 * x4.toInt + (-1 * x1.toInt + 0)) = some z from e6)
    exact e7
  have f0 : rB3 N K n p 342 [rI x0, rI x1, rI x2, rI x3, rI x4] σ := by
    obtain ⟨w, e6, e7⟩ := m4 (5477, [0, 1, 2, 3, 4]) (List.mem_of_getElem? (i := 0) rfl)
    obtain rfl : [rI x0, rI x1, rI x2, rI x3, rI x4] = w := Option.some.inj (show some [rI x0, rI x1, rI x2, rI x3, rI x4] = some w from e6)
    exact (rF_b (r := 5477) (by decide) rfl).mp e7
  have f0 := ro3_342.mp f0
  have f1 : rB3 N K n p 120 [rI x4, rI x2, rI x3, rI x5] σ := by
    obtain ⟨w, e6, e7⟩ := m4 (1924, [4, 2, 3, 5]) (List.mem_of_getElem? (i := 1) rfl)
    obtain rfl : [rI x4, rI x2, rI x3, rI x5] = w := Option.some.inj (show some [rI x4, rI x2, rI x3, rI x5] = some w from e6)
    exact (rF_b (r := 1924) (by decide) rfl).mp e7
  have f1 := ro3_120.mp f1
  clear m1 m2 m3 m4
  have r0 : 0 ≤ (1 * x5.toInt + 0) + 0 := by
    obtain ⟨k2, k3, k4, k5, k6, k7, j, j0, j1, j2⟩ := f0
    have hf : x2.toInt = -1 ∨ x2.toInt = 0 ∨ x2.toInt = 1 := by omega
    have hr : x3.toInt = -1 ∨ x3.toInt = 0 ∨ x3.toInt = 1 := by omega
    have jn : 1 ≤ j := by
      by_cases cj : j = 0
      · rw [cj, Int.zero_mul] at j1 j2
        omega
      · omega
    have e : x5.toInt = x4.toInt + x2.toInt + 8 * x3.toInt := by
      rw [f1]
      unfold rSp
      rw [if_pos ?_]
      rcases hf with h | h | h <;> rcases hr with h2 | h2 | h2 <;> rw [h] at j1 <;> rw [h2] at j2 <;> rw [h, h2] <;> omega
    rcases hf with h | h | h <;> rcases hr with h2 | h2 | h2 <;> rw [h] at j1 e <;> rw [h2] at j2 e <;> omega
  have q0 : rB3 N K n p 342 [rI x0, rI x1, rI x2, rI x3, rI x5] σ := ro3_342.mpr (by
    obtain ⟨k2, k3, k4, k5, k6, k7, j, j0, j1, j2⟩ := f0
    have hf : x2.toInt = -1 ∨ x2.toInt = 0 ∨ x2.toInt = 1 := by omega
    have hr : x3.toInt = -1 ∨ x3.toInt = 0 ∨ x3.toInt = 1 := by omega
    have jn : 1 ≤ j := by
      by_cases cj : j = 0
      · rw [cj, Int.zero_mul] at j1 j2
        omega
      · omega
    have e : x5.toInt = x4.toInt + x2.toInt + 8 * x3.toInt := by
      rw [f1]
      unfold rSp
      rw [if_pos ?_]
      rcases hf with h | h | h <;> rcases hr with h2 | h2 | h2 <;> rw [h] at j1 <;> rw [h2] at j2 <;> rw [h, h2] <;> omega
    have h5 : 0 ≤ x5.toInt := by
      rcases hf with h | h | h <;> rcases hr with h2 | h2 | h2 <;> rw [h] at j1 e <;> rw [h2] at j2 e <;> omega
    have jf : (j - 1) * x2.toInt = j * x2.toInt - x2.toInt := by rw [Int.sub_mul, Int.one_mul]
    have jr : (j - 1) * x3.toInt = j * x3.toInt - x3.toInt := by rw [Int.sub_mul, Int.one_mul]
    refine ⟨k2, k3, k4, k5, h5, d5, j - 1, by omega, ?_, ?_⟩
    · have h6 : x5.toInt % 8 = x4.toInt % 8 + x2.toInt := by
        rcases hf with h | h | h <;> rcases hr with h2 | h2 | h2 <;> rw [h] at j1 e ⊢ <;> rw [h2] at j2 e <;> omega
      omega
    · have h6 : x5.toInt / 8 = x4.toInt / 8 + x3.toInt := by
        rcases hf with h | h | h <;> rcases hr with h2 | h2 | h2 <;> rw [h] at j1 e <;> rw [h2] at j2 e ⊢ <;> omega
      omega)
  exact ⟨p, fun _ => rfl, ⟨(fun q h => by cases h), fun q h => (by cases h), (aAllc ⟨_, rfl, r0⟩ (fun f h => by cases h)), (aAllc ⟨_, rfl, (rF_b (r := 5477) (by decide) rfl).mpr q0⟩ (fun f h => by cases h))⟩, [], List.mem_cons_self, fun f h => (by cases h)⟩
theorem rw_rkRYnd {N : Int} {K : Nat → Nat} {n : Nat} {JX : (Nat → jcell) → Prop} : aGho (rH N K n) fa_T K n JX ag_rkRYnd := by
  refine aGho_of ⟨rfl, rfl⟩ ?_
  intro p σ ρ hH hX hA hM0
  have hG := aAG_of hA.1 (fun i e v he hv => (hA.2 i e v he hv).1)
  clear hA
  obtain ⟨v0, v1, v2, v3, v4, v5, rfl, g0, g1, g2, g3, g4, g5⟩ := rA_6 hG
  clear hG
  obtain ⟨x0, rfl, b0, d0⟩ := aG_int g0
  dsimp only at b0 d0
  obtain ⟨x1, rfl, b1, d1⟩ := aG_int g1
  dsimp only at b1 d1
  obtain ⟨x2, rfl, b2, d2⟩ := aG_int g2
  dsimp only at b2 d2
  obtain ⟨x3, rfl, b3, d3⟩ := aG_int g3
  dsimp only at b3 d3
  obtain ⟨x4, rfl, b4, d4⟩ := aG_int g4
  dsimp only at b4 d4
  obtain ⟨x5, rfl, b5, d5⟩ := aG_int g5
  dsimp only at b5 d5
  obtain ⟨m1, m2, m3, m4⟩ := hM0
  have l0 : 0 ≤ (-1 * x4.toInt + (1 * x1.toInt + 0)) + -1 := by
    obtain ⟨z, e6, e7⟩ := m3 ([(4, -1), (1, 1)], -1) (List.mem_of_getElem? (i := 0) rfl)
    obtain rfl : (-1 * x4.toInt + (1 * x1.toInt + 0)) = z := Option.some.inj (show some (-1 * x4.toInt + (1 * x1.toInt + 0)) = some z from e6)
    exact e7
  have f0 : rB3 N K n p 342 [rI x0, rI x1, rI x2, rI x3, rI x4] σ := by
    obtain ⟨w, e6, e7⟩ := m4 (5477, [0, 1, 2, 3, 4]) (List.mem_of_getElem? (i := 0) rfl)
    obtain rfl : [rI x0, rI x1, rI x2, rI x3, rI x4] = w := Option.some.inj (show some [rI x0, rI x1, rI x2, rI x3, rI x4] = some w from e6)
    exact (rF_b (r := 5477) (by decide) rfl).mp e7
  have f0 := ro3_342.mp f0
  have f1 : rB3 N K n p 120 [rI x4, rI x2, rI x3, rI x5] σ := by
    obtain ⟨w, e6, e7⟩ := m4 (1924, [4, 2, 3, 5]) (List.mem_of_getElem? (i := 1) rfl)
    obtain rfl : [rI x4, rI x2, rI x3, rI x5] = w := Option.some.inj (show some [rI x4, rI x2, rI x3, rI x5] = some w from e6)
    exact (rF_b (r := 1924) (by decide) rfl).mp e7
  have f1 := ro3_120.mp f1
  clear m1 m2 m3 m4
  have r0 : 0 ≤ (1 * x5.toInt + 0) + 0 := by
    obtain ⟨k2, k3, k4, k5, k6, k7, j, j0, j1, j2⟩ := f0
    have hf : x2.toInt = -1 ∨ x2.toInt = 0 ∨ x2.toInt = 1 := by omega
    have hr : x3.toInt = -1 ∨ x3.toInt = 0 ∨ x3.toInt = 1 := by omega
    have jn : 1 ≤ j := by
      by_cases cj : j = 0
      · rw [cj, Int.zero_mul] at j1 j2
        omega
      · omega
    have e : x5.toInt = x4.toInt + x2.toInt + 8 * x3.toInt := by
      rw [f1]
      unfold rSp
      rw [if_pos ?_]
      rcases hf with h | h | h <;> rcases hr with h2 | h2 | h2 <;> rw [h] at j1 <;> rw [h2] at j2 <;> rw [h, h2] <;> omega
    rcases hf with h | h | h <;> rcases hr with h2 | h2 | h2 <;> rw [h] at j1 e <;> rw [h2] at j2 e <;> omega
  have q0 : rB3 N K n p 342 [rI x0, rI x1, rI x2, rI x3, rI x5] σ := ro3_342.mpr (by
    obtain ⟨k2, k3, k4, k5, k6, k7, j, j0, j1, j2⟩ := f0
    have hf : x2.toInt = -1 ∨ x2.toInt = 0 ∨ x2.toInt = 1 := by omega
    have hr : x3.toInt = -1 ∨ x3.toInt = 0 ∨ x3.toInt = 1 := by omega
    have jn : 1 ≤ j := by
      by_cases cj : j = 0
      · rw [cj, Int.zero_mul] at j1 j2
        omega
      · omega
    have e : x5.toInt = x4.toInt + x2.toInt + 8 * x3.toInt := by
      rw [f1]
      unfold rSp
      rw [if_pos ?_]
      rcases hf with h | h | h <;> rcases hr with h2 | h2 | h2 <;> rw [h] at j1 <;> rw [h2] at j2 <;> rw [h, h2] <;> omega
    have h5 : 0 ≤ x5.toInt := by
      rcases hf with h | h | h <;> rcases hr with h2 | h2 | h2 <;> rw [h] at j1 e <;> rw [h2] at j2 e <;> omega
    have jf : (j - 1) * x2.toInt = j * x2.toInt - x2.toInt := by rw [Int.sub_mul, Int.one_mul]
    have jr : (j - 1) * x3.toInt = j * x3.toInt - x3.toInt := by rw [Int.sub_mul, Int.one_mul]
    refine ⟨k2, k3, k4, k5, h5, d5, j - 1, by omega, ?_, ?_⟩
    · have h6 : x5.toInt % 8 = x4.toInt % 8 + x2.toInt := by
        rcases hf with h | h | h <;> rcases hr with h2 | h2 | h2 <;> rw [h] at j1 e ⊢ <;> rw [h2] at j2 e <;> omega
      omega
    · have h6 : x5.toInt / 8 = x4.toInt / 8 + x3.toInt := by
        rcases hf with h | h | h <;> rcases hr with h2 | h2 | h2 <;> rw [h] at j1 e <;> rw [h2] at j2 e ⊢ <;> omega
      omega)
  exact ⟨p, fun _ => rfl, ⟨(fun q h => by cases h), fun q h => (by cases h), (aAllc ⟨_, rfl, r0⟩ (fun f h => by cases h)), (aAllc ⟨_, rfl, (rF_b (r := 5477) (by decide) rfl).mpr q0⟩ (fun f h => by cases h))⟩, [], List.mem_cons_self, fun f h => (by cases h)⟩
theorem rw_rkRYq0 {N : Int} {K : Nat → Nat} {n : Nat} {JX : (Nat → jcell) → Prop} : aGho (rH N K n) fa_T K n JX ag_rkRYq0 := by
  refine aGho_of ⟨rfl, rfl⟩ ?_
  intro p σ ρ hH hX hA hM0
  have hG := aAG_of hA.1 (fun i e v he hv => (hA.2 i e v he hv).1)
  clear hA
  obtain ⟨v0, v1, v2, v3, v4, rfl, g0, g1, g2, g3, g4⟩ := rA_5 hG
  clear hG
  obtain ⟨x0, rfl, b0, d0⟩ := aG_int g0
  dsimp only at b0 d0
  obtain ⟨x1, rfl, b1, d1⟩ := aG_int g1
  dsimp only at b1 d1
  obtain ⟨x2, rfl, b2, d2⟩ := aG_int g2
  dsimp only at b2 d2
  obtain ⟨x3, rfl, b3, d3⟩ := aG_int g3
  dsimp only at b3 d3
  obtain ⟨x4, rfl, b4, d4⟩ := aG_int g4
  dsimp only at b4 d4
  obtain ⟨m1, m2, m3, m4⟩ := hM0
  have f0 : rB3 N K n p 342 [rI x0, rI x1, rI x2, rI x3, rI x4] σ := by
    obtain ⟨w, e6, e7⟩ := m4 (5477, [0, 1, 2, 3, 4]) (List.mem_of_getElem? (i := 0) rfl)
    obtain rfl : [rI x0, rI x1, rI x2, rI x3, rI x4] = w := Option.some.inj (show some [rI x0, rI x1, rI x2, rI x3, rI x4] = some w from e6)
    exact (rF_b (r := 5477) (by decide) rfl).mp e7
  have f0 := ro3_342.mp f0
  clear m1 m2 m3 m4
  have r0 : 0 ≤ (1 * x1.toInt + (-1 * x4.toInt + 0)) + 0 := by
    obtain ⟨k2, k3, k4, k5, k6, k7, j, j0, j1, j2⟩ := f0
    have hf : x2.toInt = -1 ∨ x2.toInt = 0 ∨ x2.toInt = 1 := by omega
    have hr : x3.toInt = -1 ∨ x3.toInt = 0 ∨ x3.toInt = 1 := by omega
    rcases hf with h | h | h <;> rcases hr with h2 | h2 | h2 <;> rw [h] at j1 <;> rw [h2] at j2 <;> omega
  exact ⟨p, fun _ => rfl, ⟨(fun q h => by cases h), fun q h => (by cases h), (aAllc ⟨_, rfl, r0⟩ (fun f h => by cases h)), (fun f h => by cases h)⟩, [], List.mem_cons_self, fun f h => (by cases h)⟩
theorem rw_rkRYq1 {N : Int} {K : Nat → Nat} {n : Nat} {JX : (Nat → jcell) → Prop} : aGho (rH N K n) fa_T K n JX ag_rkRYq1 := by
  refine aGho_of ⟨rfl, rfl⟩ ?_
  intro p σ ρ hH hX hA hM0
  have hG := aAG_of hA.1 (fun i e v he hv => (hA.2 i e v he hv).1)
  clear hA
  obtain ⟨v0, v1, v2, v3, v4, rfl, g0, g1, g2, g3, g4⟩ := rA_5 hG
  clear hG
  obtain ⟨x0, rfl, b0, d0⟩ := aG_int g0
  dsimp only at b0 d0
  obtain ⟨x1, rfl, b1, d1⟩ := aG_int g1
  dsimp only at b1 d1
  obtain ⟨x2, rfl, b2, d2⟩ := aG_int g2
  dsimp only at b2 d2
  obtain ⟨x3, rfl, b3, d3⟩ := aG_int g3
  dsimp only at b3 d3
  obtain ⟨x4, rfl, b4, d4⟩ := aG_int g4
  dsimp only at b4 d4
  obtain ⟨m1, m2, m3, m4⟩ := hM0
  have f0 : rB3 N K n p 342 [rI x0, rI x1, rI x2, rI x3, rI x4] σ := by
    obtain ⟨w, e6, e7⟩ := m4 (5477, [0, 1, 2, 3, 4]) (List.mem_of_getElem? (i := 0) rfl)
    obtain rfl : [rI x0, rI x1, rI x2, rI x3, rI x4] = w := Option.some.inj (show some [rI x0, rI x1, rI x2, rI x3, rI x4] = some w from e6)
    exact (rF_b (r := 5477) (by decide) rfl).mp e7
  have f0 := ro3_342.mp f0
  clear m1 m2 m3 m4
  have r0 : 0 ≤ (-1 * x1.toInt + (1 * x4.toInt + 0)) + 0 := by
    obtain ⟨k2, k3, k4, k5, k6, k7, j, j0, j1, j2⟩ := f0
    have hf : x2.toInt = -1 ∨ x2.toInt = 0 ∨ x2.toInt = 1 := by omega
    have hr : x3.toInt = -1 ∨ x3.toInt = 0 ∨ x3.toInt = 1 := by omega
    rcases hf with h | h | h <;> rcases hr with h2 | h2 | h2 <;> rw [h] at j1 <;> rw [h2] at j2 <;> omega
  exact ⟨p, fun _ => rfl, ⟨(fun q h => by cases h), fun q h => (by cases h), (aAllc ⟨_, rfl, r0⟩ (fun f h => by cases h)), (fun f h => by cases h)⟩, [], List.mem_cons_self, fun f h => (by cases h)⟩
theorem rw_rkRYq2 {N : Int} {K : Nat → Nat} {n : Nat} {JX : (Nat → jcell) → Prop} : aGho (rH N K n) fa_T K n JX ag_rkRYq2 := by
  refine aGho_of ⟨rfl, rfl⟩ ?_
  intro p σ ρ hH hX hA hM0
  have hG := aAG_of hA.1 (fun i e v he hv => (hA.2 i e v he hv).1)
  clear hA
  obtain ⟨v0, v1, v2, v3, v4, rfl, g0, g1, g2, g3, g4⟩ := rA_5 hG
  clear hG
  obtain ⟨x0, rfl, b0, d0⟩ := aG_int g0
  dsimp only at b0 d0
  obtain ⟨x1, rfl, b1, d1⟩ := aG_int g1
  dsimp only at b1 d1
  obtain ⟨x2, rfl, b2, d2⟩ := aG_int g2
  dsimp only at b2 d2
  obtain ⟨x3, rfl, b3, d3⟩ := aG_int g3
  dsimp only at b3 d3
  obtain ⟨x4, rfl, b4, d4⟩ := aG_int g4
  dsimp only at b4 d4
  obtain ⟨m1, m2, m3, m4⟩ := hM0
  have f0 : rB3 N K n p 342 [rI x0, rI x1, rI x2, rI x3, rI x4] σ := by
    obtain ⟨w, e6, e7⟩ := m4 (5477, [0, 1, 2, 3, 4]) (List.mem_of_getElem? (i := 0) rfl)
    obtain rfl : [rI x0, rI x1, rI x2, rI x3, rI x4] = w := Option.some.inj (show some [rI x0, rI x1, rI x2, rI x3, rI x4] = some w from e6)
    exact (rF_b (r := 5477) (by decide) rfl).mp e7
  have f0 := ro3_342.mp f0
  clear m1 m2 m3 m4
  have r0 : 0 ≤ (1 * x1.toInt + (-1 * x4.toInt + 0)) + 0 := by
    obtain ⟨k2, k3, k4, k5, k6, k7, j, j0, j1, j2⟩ := f0
    have hf : x2.toInt = -1 ∨ x2.toInt = 0 ∨ x2.toInt = 1 := by omega
    have hr : x3.toInt = -1 ∨ x3.toInt = 0 ∨ x3.toInt = 1 := by omega
    rcases hf with h | h | h <;> rcases hr with h2 | h2 | h2 <;> rw [h] at j1 <;> rw [h2] at j2 <;> omega
  exact ⟨p, fun _ => rfl, ⟨(fun q h => by cases h), fun q h => (by cases h), (aAllc ⟨_, rfl, r0⟩ (fun f h => by cases h)), (fun f h => by cases h)⟩, [], List.mem_cons_self, fun f h => (by cases h)⟩
theorem rw_rkRYq3 {N : Int} {K : Nat → Nat} {n : Nat} {JX : (Nat → jcell) → Prop} : aGho (rH N K n) fa_T K n JX ag_rkRYq3 := by
  refine aGho_of ⟨rfl, rfl⟩ ?_
  intro p σ ρ hH hX hA hM0
  have hG := aAG_of hA.1 (fun i e v he hv => (hA.2 i e v he hv).1)
  clear hA
  obtain ⟨v0, v1, v2, v3, v4, rfl, g0, g1, g2, g3, g4⟩ := rA_5 hG
  clear hG
  obtain ⟨x0, rfl, b0, d0⟩ := aG_int g0
  dsimp only at b0 d0
  obtain ⟨x1, rfl, b1, d1⟩ := aG_int g1
  dsimp only at b1 d1
  obtain ⟨x2, rfl, b2, d2⟩ := aG_int g2
  dsimp only at b2 d2
  obtain ⟨x3, rfl, b3, d3⟩ := aG_int g3
  dsimp only at b3 d3
  obtain ⟨x4, rfl, b4, d4⟩ := aG_int g4
  dsimp only at b4 d4
  obtain ⟨m1, m2, m3, m4⟩ := hM0
  have f0 : rB3 N K n p 342 [rI x0, rI x1, rI x2, rI x3, rI x4] σ := by
    obtain ⟨w, e6, e7⟩ := m4 (5477, [0, 1, 2, 3, 4]) (List.mem_of_getElem? (i := 0) rfl)
    obtain rfl : [rI x0, rI x1, rI x2, rI x3, rI x4] = w := Option.some.inj (show some [rI x0, rI x1, rI x2, rI x3, rI x4] = some w from e6)
    exact (rF_b (r := 5477) (by decide) rfl).mp e7
  have f0 := ro3_342.mp f0
  clear m1 m2 m3 m4
  have r0 : 0 ≤ (-1 * x1.toInt + (1 * x4.toInt + 0)) + 0 := by
    obtain ⟨k2, k3, k4, k5, k6, k7, j, j0, j1, j2⟩ := f0
    have hf : x2.toInt = -1 ∨ x2.toInt = 0 ∨ x2.toInt = 1 := by omega
    have hr : x3.toInt = -1 ∨ x3.toInt = 0 ∨ x3.toInt = 1 := by omega
    rcases hf with h | h | h <;> rcases hr with h2 | h2 | h2 <;> rw [h] at j1 <;> rw [h2] at j2 <;> omega
  exact ⟨p, fun _ => rfl, ⟨(fun q h => by cases h), fun q h => (by cases h), (aAllc ⟨_, rfl, r0⟩ (fun f h => by cases h)), (fun f h => by cases h)⟩, [], List.mem_cons_self, fun f h => (by cases h)⟩
theorem rw_rkU0 {N : Int} {K : Nat → Nat} {n : Nat} {JX : (Nat → jcell) → Prop} : aGho (rH N K n) fa_T K n JX ag_rkU0 := by
  refine aGho_of ⟨rfl, rfl⟩ ?_
  intro p σ ρ hH hX hA hM0
  have hG := aAG_of hA.1 (fun i e v he hv => (hA.2 i e v he hv).1)
  clear hA
  obtain ⟨v0, v1, rfl, g0, g1⟩ := rA_2 hG
  clear hG
  obtain ⟨x0, rfl, b0, d0⟩ := rG_ref (by decide) g0
  obtain ⟨x1, rfl, b1, d1⟩ := aG_int g1
  dsimp only at b1 d1
  obtain ⟨m1, m2, m3, m4⟩ := hM0
  obtain ⟨T, hT⟩ := rTe_ex hH b0 d0
  clear m1 m2 m3 m4
  have q0 : rB3 N K n p 344 [rR x0, rI x1] σ := ro3_344.mpr (by
    intro h
    omega)
  exact ⟨p, fun _ => rfl, ⟨(fun q h => by cases h), fun q h => (by cases h), (fun f h => by cases h), (aAllc ⟨_, rfl, (rF_b (r := 5506) (by decide) rfl).mpr q0⟩ (fun f h => by cases h))⟩, [], List.mem_cons_self, fun f h => (by cases h)⟩
theorem rw_rkUy {N : Int} {K : Nat → Nat} {n : Nat} {JX : (Nat → jcell) → Prop} : aGho (rH N K n) fa_T K n JX ag_rkUy := by
  refine aGho_of ⟨rfl, rfl⟩ ?_
  intro p σ ρ hH hX hA hM0
  have hG := aAG_of hA.1 (fun i e v he hv => (hA.2 i e v he hv).1)
  clear hA
  obtain ⟨v0, v1, v2, v3, v4, rfl, g0, g1, g2, g3, g4⟩ := rA_5 hG
  clear hG
  obtain ⟨x0, rfl, b0, d0⟩ := rG_ref (by decide) g0
  obtain ⟨x1, rfl, b1, d1⟩ := aG_int g1
  dsimp only at b1 d1
  obtain ⟨x2, rfl, b2, d2⟩ := aG_int g2
  dsimp only at b2 d2
  obtain ⟨x3, rfl, b3, d3⟩ := aG_int g3
  dsimp only at b3 d3
  obtain ⟨x4, rfl, b4, d4⟩ := rG_ref (by decide) g4
  obtain ⟨m1, m2, m3, m4⟩ := hM0
  obtain ⟨T, hT⟩ := rTe_ex hH b0 d0
  obtain ⟨a0, c0, fs0, w0, e1, s0, t0, e4⟩ := m1 (0, 32, 4) (List.mem_of_getElem? (i := 0) rfl)
  obtain rfl : x0 = a0 := Sum.inl.inj (Option.some.inj (Sum.inr.inj (Sum.inr.inj (Option.some.inj (show some (rR x0) = some _ from e1)))))
  obtain rfl : rR x4 = w0 := Option.some.inj (show some (rR x4) = some w0 from e4)
  clear e1 e4
  obtain ⟨a1, c1, fs1, w1, e1, s1, t1, e4⟩ := m1 (0, 33, 3) (List.mem_of_getElem? (i := 1) rfl)
  obtain rfl : x0 = a1 := Sum.inl.inj (Option.some.inj (Sum.inr.inj (Sum.inr.inj (Option.some.inj (show some (rR x0) = some _ from e1)))))
  obtain rfl : rI x3 = w1 := Option.some.inj (show some (rI x3) = some w1 from e4)
  clear e1 e4
  obtain ⟨a, mc0, ty0, gc0, ic0, e1, sc0, jc0, e4, e5⟩ := m2 (4, ([(1, 1)], 0), 2) (List.mem_of_getElem? (i := 0) rfl)
  obtain rfl : x4 = a := Sum.inl.inj (Option.some.inj (Sum.inr.inj (Sum.inr.inj (Option.some.inj (show some (rR x4) = some _ from e1)))))
  obtain ⟨gc0, rfl⟩ : ∃ g, gc0 = .inl g := by
    rcases gc0 with g | g
    · exact ⟨g, rfl⟩
    · exact absurd (show some (rI x2) = some (.inr (.inl (g ic0))) from e5) (fun h => by cases h)
  have sc0 : σ x4 = .inl (ty0, mc0, .inl gc0) := sc0
  have ec0 : x2 = gc0 ic0 := Sum.inl.inj (Option.some.inj (show some (rI x2) = some _ from e5))
  have kc0 : (ic0 : Int) = (1 * x1.toInt + 0) + 0 := by
    obtain ⟨z, e6, e7⟩ := e4
    obtain rfl : (1 * x1.toInt + 0) = z := Option.some.inj (show some (1 * x1.toInt + 0) = some z from e6)
    exact e7
  clear e1 e4 e5
  have l0 : 0 ≤ (1 * x3.toInt + (-1 * x1.toInt + 0)) + -1 := by
    obtain ⟨z, e6, e7⟩ := m3 ([(3, 1), (1, -1)], -1) (List.mem_of_getElem? (i := 0) rfl)
    obtain rfl : (1 * x3.toInt + (-1 * x1.toInt + 0)) = z := Option.some.inj (show some (1 * x3.toInt + (-1 * x1.toInt + 0)) = some z from e6)
    exact e7
  clear m1 m2 m3 m4
  have q0 : rB3 N K n p 344 [rR x0, rI x2] σ := ro3_344.mpr (by
    intro _
    obtain ⟨g, r⟩ := rRo_ex (ko := 62) (f := 32) (kr := 85) (len := 2048) hH rfl rfl rfl (by decide) b0 d0
    have e := rRo_c (i := ic0) r s0 t0 sc0 ec0
    exact ⟨g, x3, r, ⟨b0, d0, _, _, s1, t1⟩, x1.toInt, b1, by omega, by rw [show x1.toInt.toNat = ic0 by omega]; exact e⟩)
  exact ⟨p, fun _ => rfl, ⟨(fun q h => by cases h), fun q h => (by cases h), (fun f h => by cases h), (aAllc ⟨_, rfl, (rF_b (r := 5506) (by decide) rfl).mpr q0⟩ (fun f h => by cases h))⟩, [], List.mem_cons_self, fun f h => (by cases h)⟩
theorem rw_rkUe {N : Int} {K : Nat → Nat} {n : Nat} {JX : (Nat → jcell) → Prop} : aGho (rH N K n) fa_T K n JX ag_rkUe := by
  refine aGho_of ⟨rfl, rfl⟩ ?_
  intro p σ ρ hH hX hA hM0
  have hG := aAG_of hA.1 (fun i e v he hv => (hA.2 i e v he hv).1)
  clear hA
  obtain ⟨v0, v1, rfl, g0, g1⟩ := rA_2 hG
  clear hG
  obtain ⟨x0, rfl, b0, d0⟩ := rG_ref (by decide) g0
  obtain ⟨x1, rfl, b1, d1⟩ := aG_int g1
  dsimp only at b1 d1
  obtain ⟨m1, m2, m3, m4⟩ := hM0
  obtain ⟨T, hT⟩ := rTe_ex hH b0 d0
  have f0 : rB3 N K n p 344 [rR x0, rI x1] σ := by
    obtain ⟨w, e6, e7⟩ := m4 (5506, [0, 1]) (List.mem_of_getElem? (i := 0) rfl)
    obtain rfl : [rR x0, rI x1] = w := Option.some.inj (show some [rR x0, rI x1] = some w from e6)
    exact (rF_b (r := 5506) (by decide) rfl).mp e7
  have f0 := ro3_344.mp f0
  clear m1 m2 m3 m4
  have q0 : rB3 N K n p 343 [rR x0, rI x1] σ := ro3_343.mpr (by
    exact f0)
  exact ⟨p, fun _ => rfl, ⟨(fun q h => by cases h), fun q h => (by cases h), (fun f h => by cases h), (aAllc ⟨_, rfl, (rF_b (r := 5490) (by decide) rfl).mpr q0⟩ (fun f h => by cases h))⟩, [], List.mem_cons_self, fun f h => (by cases h)⟩
theorem rw_rkUn {N : Int} {K : Nat → Nat} {n : Nat} {JX : (Nat → jcell) → Prop} : aGho (rH N K n) fa_T K n JX ag_rkUn := by
  refine aGho_of ⟨rfl, rfl⟩ ?_
  intro p σ ρ hH hX hA hM0
  have hG := aAG_of hA.1 (fun i e v he hv => (hA.2 i e v he hv).1)
  clear hA
  obtain ⟨v0, v1, rfl, g0, g1⟩ := rA_2 hG
  clear hG
  obtain ⟨x0, rfl, b0, d0⟩ := rG_ref (by decide) g0
  obtain ⟨x1, rfl, b1, d1⟩ := aG_int g1
  dsimp only at b1 d1
  obtain ⟨m1, m2, m3, m4⟩ := hM0
  obtain ⟨T, hT⟩ := rTe_ex hH b0 d0
  clear m1 m2 m3 m4
  have q0 : rB3 N K n p 343 [rR x0, rI x1] σ := ro3_343.mpr (by
    intro h
    omega)
  exact ⟨p, fun _ => rfl, ⟨(fun q h => by cases h), fun q h => (by cases h), (fun f h => by cases h), (aAllc ⟨_, rfl, (rF_b (r := 5490) (by decide) rfl).mpr q0⟩ (fun f h => by cases h))⟩, [], List.mem_cons_self, fun f h => (by cases h)⟩
theorem rw_rlL0 {N : Int} {K : Nat → Nat} {n : Nat} {JX : (Nat → jcell) → Prop} : aGho (rH N K n) fa_T K n JX ag_rlL0 := by
  refine aGho_of ⟨rfl, rfl⟩ ?_
  intro p σ ρ hH hX hA hM0
  have hG := aAG_of hA.1 (fun i e v he hv => (hA.2 i e v he hv).1)
  clear hA
  obtain ⟨v0, v1, v2, v3, rfl, g0, g1, g2, g3⟩ := rA_4 hG
  clear hG
  obtain ⟨x0, rfl, b0, d0⟩ := rG_ref (by decide) g0
  obtain ⟨x1, rfl, b1, d1⟩ := aG_int g1
  dsimp only at b1 d1
  obtain ⟨x2, rfl, b2, d2⟩ := aG_int g2
  dsimp only at b2 d2
  obtain ⟨x3, rfl, b3, d3⟩ := aG_int g3
  dsimp only at b3 d3
  obtain ⟨m1, m2, m3, m4⟩ := hM0
  obtain ⟨T, hT⟩ := rTe_ex hH b0 d0
  obtain ⟨a0, c0, fs0, w0, e1, s0, t0, e4⟩ := m1 (0, 37, 2) (List.mem_of_getElem? (i := 0) rfl)
  obtain rfl : x0 = a0 := Sum.inl.inj (Option.some.inj (Sum.inr.inj (Sum.inr.inj (Option.some.inj (show some (rR x0) = some _ from e1)))))
  obtain rfl : rI x2 = w0 := Option.some.inj (show some (rI x2) = some w0 from e4)
  clear e1 e4
  obtain ⟨a1, c1, fs1, w1, e1, s1, t1, e4⟩ := m1 (0, 1, 3) (List.mem_of_getElem? (i := 1) rfl)
  obtain rfl : x0 = a1 := Sum.inl.inj (Option.some.inj (Sum.inr.inj (Sum.inr.inj (Option.some.inj (show some (rR x0) = some _ from e1)))))
  obtain rfl : rI x3 = w1 := Option.some.inj (show some (rI x3) = some w1 from e4)
  clear e1 e4
  have l0 : 0 ≤ (1 * x2.toInt + (-1 * x3.toInt + 0)) + 0 := by
    obtain ⟨z, e6, e7⟩ := m3 ([(2, 1), (3, -1)], 0) (List.mem_of_getElem? (i := 0) rfl)
    obtain rfl : (1 * x2.toInt + (-1 * x3.toInt + 0)) = z := Option.some.inj (show some (1 * x2.toInt + (-1 * x3.toInt + 0)) = some z from e6)
    exact e7
  clear m1 m2 m3 m4
  have q0 : rB3 N K n p 348 [rR x0, rI x1] σ := ro3_348.mpr (by
    obtain ⟨g, h⟩ := rTxt_ex hH b0 d0
    exact ⟨g, x2, x3, ⟨h, ⟨b0, d0, _, _, s0, t0⟩, ⟨b0, d0, _, _, s1, t1⟩⟩, by unfold rLk9; rw [if_neg (by omega)]; omega⟩)
  exact ⟨p, fun _ => rfl, ⟨(fun q h => by cases h), fun q h => (by cases h), (fun f h => by cases h), (aAllc ⟨_, rfl, (rF_b (r := 5570) (by decide) rfl).mpr q0⟩ (fun f h => by cases h))⟩, [], List.mem_cons_self, fun f h => (by cases h)⟩
theorem rw_rlL1 {N : Int} {K : Nat → Nat} {n : Nat} {JX : (Nat → jcell) → Prop} : aGho (rH N K n) fa_T K n JX ag_rlL1 := by
  refine aGho_of ⟨rfl, rfl⟩ ?_
  intro p σ ρ hH hX hA hM0
  have hG := aAG_of hA.1 (fun i e v he hv => (hA.2 i e v he hv).1)
  clear hA
  obtain ⟨v0, v1, v2, v3, v4, rfl, g0, g1, g2, g3, g4⟩ := rA_5 hG
  clear hG
  obtain ⟨x0, rfl, b0, d0⟩ := rG_ref (by decide) g0
  obtain ⟨x1, rfl, b1, d1⟩ := aG_int g1
  dsimp only at b1 d1
  obtain ⟨x2, rfl, b2, d2⟩ := aG_int g2
  dsimp only at b2 d2
  obtain ⟨x3, rfl, b3, d3⟩ := aG_int g3
  dsimp only at b3 d3
  obtain ⟨x4, rfl, b4, d4⟩ := rG_ref (by decide) g4
  obtain ⟨m1, m2, m3, m4⟩ := hM0
  obtain ⟨T, hT⟩ := rTe_ex hH b0 d0
  obtain ⟨a0, c0, fs0, w0, e1, s0, t0, e4⟩ := m1 (0, 2, 4) (List.mem_of_getElem? (i := 0) rfl)
  obtain rfl : x0 = a0 := Sum.inl.inj (Option.some.inj (Sum.inr.inj (Sum.inr.inj (Option.some.inj (show some (rR x0) = some _ from e1)))))
  obtain rfl : rR x4 = w0 := Option.some.inj (show some (rR x4) = some w0 from e4)
  clear e1 e4
  obtain ⟨a1, c1, fs1, w1, e1, s1, t1, e4⟩ := m1 (0, 37, 2) (List.mem_of_getElem? (i := 1) rfl)
  obtain rfl : x0 = a1 := Sum.inl.inj (Option.some.inj (Sum.inr.inj (Sum.inr.inj (Option.some.inj (show some (rR x0) = some _ from e1)))))
  obtain rfl : rI x2 = w1 := Option.some.inj (show some (rI x2) = some w1 from e4)
  clear e1 e4
  obtain ⟨a2, c2, fs2, w2, e1, s2, t2, e4⟩ := m1 (0, 1, 3) (List.mem_of_getElem? (i := 2) rfl)
  obtain rfl : x0 = a2 := Sum.inl.inj (Option.some.inj (Sum.inr.inj (Sum.inr.inj (Option.some.inj (show some (rR x0) = some _ from e1)))))
  obtain rfl : rI x3 = w2 := Option.some.inj (show some (rI x3) = some w2 from e4)
  clear e1 e4
  obtain ⟨a, mc0, ty0, gc0, ic0, e1, sc0, jc0, e4, e5⟩ := m2 (4, ([(2, 1)], 0), 1) (List.mem_of_getElem? (i := 0) rfl)
  obtain rfl : x4 = a := Sum.inl.inj (Option.some.inj (Sum.inr.inj (Sum.inr.inj (Option.some.inj (show some (rR x4) = some _ from e1)))))
  obtain ⟨gc0, rfl⟩ : ∃ g, gc0 = .inl g := by
    rcases gc0 with g | g
    · exact ⟨g, rfl⟩
    · exact absurd (show some (rI x1) = some (.inr (.inl (g ic0))) from e5) (fun h => by cases h)
  have sc0 : σ x4 = .inl (ty0, mc0, .inl gc0) := sc0
  have ec0 : x1 = gc0 ic0 := Sum.inl.inj (Option.some.inj (show some (rI x1) = some _ from e5))
  have kc0 : (ic0 : Int) = (1 * x2.toInt + 0) + 0 := by
    obtain ⟨z, e6, e7⟩ := e4
    obtain rfl : (1 * x2.toInt + 0) = z := Option.some.inj (show some (1 * x2.toInt + 0) = some z from e6)
    exact e7
  clear e1 e4 e5
  have l0 : 0 ≤ (1 * x3.toInt + (-1 * x2.toInt + 0)) + -1 := by
    obtain ⟨z, e6, e7⟩ := m3 ([(3, 1), (2, -1)], -1) (List.mem_of_getElem? (i := 0) rfl)
    obtain rfl : (1 * x3.toInt + (-1 * x2.toInt + 0)) = z := Option.some.inj (show some (1 * x3.toInt + (-1 * x2.toInt + 0)) = some z from e6)
    exact e7
  clear m1 m2 m3 m4
  have q0 : rB3 N K n p 348 [rR x0, rI x1] σ := ro3_348.mpr (by
    obtain ⟨g, h⟩ := rTxt_ex hH b0 d0
    have e := rCh9_c (i := ic0) h s0 t0 sc0 ec0
    exact ⟨g, x2, x3, ⟨h, ⟨b0, d0, _, _, s1, t1⟩, ⟨b0, d0, _, _, s2, t2⟩⟩, by unfold rLk9; rw [if_pos (by omega), show x2.toInt.toNat = ic0 by omega]; exact e.symm⟩)
  exact ⟨p, fun _ => rfl, ⟨(fun q h => by cases h), fun q h => (by cases h), (fun f h => by cases h), (aAllc ⟨_, rfl, (rF_b (r := 5570) (by decide) rfl).mpr q0⟩ (fun f h => by cases h))⟩, [], List.mem_cons_self, fun f h => (by cases h)⟩
theorem rw_rlLe {N : Int} {K : Nat → Nat} {n : Nat} {JX : (Nat → jcell) → Prop} : aGho (rH N K n) fa_T K n JX ag_rlLe := by
  refine aGho_of ⟨rfl, rfl⟩ ?_
  intro p σ ρ hH hX hA hM0
  have hG := aAG_of hA.1 (fun i e v he hv => (hA.2 i e v he hv).1)
  clear hA
  obtain ⟨v0, v1, v2, rfl, g0, g1, g2⟩ := rA_3 hG
  clear hG
  obtain ⟨x0, rfl, b0, d0⟩ := rG_ref (by decide) g0
  obtain ⟨x1, rfl, b1, d1⟩ := aG_int g1
  dsimp only at b1 d1
  obtain ⟨x2, rfl, b2, d2⟩ := aG_int g2
  dsimp only at b2 d2
  obtain ⟨m1, m2, m3, m4⟩ := hM0
  obtain ⟨T, hT⟩ := rTe_ex hH b0 d0
  have f0 : rB3 N K n p 348 [rR x0, rI x1] σ := by
    obtain ⟨w, e6, e7⟩ := m4 (5570, [0, 1]) (List.mem_of_getElem? (i := 0) rfl)
    obtain rfl : [rR x0, rI x1] = w := Option.some.inj (show some [rR x0, rI x1] = some w from e6)
    exact (rF_b (r := 5570) (by decide) rfl).mp e7
  have f0 := ro3_348.mp f0
  have f1 : rB3 N K n p 348 [rR x0, rI x2] σ := by
    obtain ⟨w, e6, e7⟩ := m4 (5570, [0, 2]) (List.mem_of_getElem? (i := 1) rfl)
    obtain rfl : [rR x0, rI x2] = w := Option.some.inj (show some [rR x0, rI x2] = some w from e6)
    exact (rF_b (r := 5570) (by decide) rfl).mp e7
  have f1 := ro3_348.mp f1
  clear m1 m2 m3 m4
  have r0 : 0 ≤ (1 * x1.toInt + (-1 * x2.toInt + 0)) + 0 := by
    obtain ⟨g, t, e, h1, h2⟩ := f0
    obtain ⟨g', t', e', h1', h2'⟩ := f1
    obtain ⟨rfl, rfl, rfl⟩ := rAt9_u h1 h1'
    omega
  have r1 : 0 ≤ (-1 * x1.toInt + (1 * x2.toInt + 0)) + 0 := by
    obtain ⟨g, t, e, h1, h2⟩ := f0
    obtain ⟨g', t', e', h1', h2'⟩ := f1
    obtain ⟨rfl, rfl, rfl⟩ := rAt9_u h1 h1'
    omega
  exact ⟨p, fun _ => rfl, ⟨(fun q h => by cases h), fun q h => (by cases h), (aAllc ⟨_, rfl, r0⟩ (aAllc ⟨_, rfl, r1⟩ (fun f h => by cases h))), (fun f h => by cases h)⟩, [], List.mem_cons_self, fun f h => (by cases h)⟩
theorem rw_rlAT {N : Int} {K : Nat → Nat} {n : Nat} {JX : (Nat → jcell) → Prop} : aGho (rH N K n) fa_T K n JX ag_rlAT := by
  refine aGho_of ⟨rfl, rfl⟩ ?_
  intro p σ ρ hH hX hA hM0
  have hG := aAG_of hA.1 (fun i e v he hv => (hA.2 i e v he hv).1)
  clear hA
  obtain ⟨v0, rfl, g0⟩ := rA_1 hG
  clear hG
  obtain ⟨x0, rfl, b0, d0⟩ := aG_int g0
  dsimp only at b0 d0
  obtain ⟨m1, m2, m3, m4⟩ := hM0
  have l0 : 0 ≤ (-1 * x0.toInt + 0) + 65535 := by
    obtain ⟨z, e6, e7⟩ := m3 ([(0, -1)], 65535) (List.mem_of_getElem? (i := 0) rfl)
    obtain rfl : (-1 * x0.toInt + 0) = z := Option.some.inj (show some (-1 * x0.toInt + 0) = some z from e6)
    exact e7
  clear m1 m2 m3 m4
  have r0 : 0 ≤ (-1 * x0.toInt + 0) + 65535 := by
    omega
  exact ⟨p, fun _ => rfl, ⟨(fun q h => by cases h), fun q h => (by cases h), (aAllc ⟨_, rfl, r0⟩ (fun f h => by cases h)), (fun f h => by cases h)⟩, [], List.mem_cons_self, fun f h => (by cases h)⟩
theorem rw_rlAU {N : Int} {K : Nat → Nat} {n : Nat} {JX : (Nat → jcell) → Prop} : aGho (rH N K n) fa_T K n JX ag_rlAU := by
  refine aGho_of ⟨rfl, rfl⟩ ?_
  intro p σ ρ hH hX hA hM0
  have hG := aAG_of hA.1 (fun i e v he hv => (hA.2 i e v he hv).1)
  clear hA
  obtain ⟨v0, rfl, g0⟩ := rA_1 hG
  clear hG
  obtain ⟨x0, rfl, b0, d0⟩ := aG_int g0
  dsimp only at b0 d0
  obtain ⟨m1, m2, m3, m4⟩ := hM0
  have l0 : 0 ≤ (-1 * x0.toInt + 0) + 65536 := by
    obtain ⟨z, e6, e7⟩ := m3 ([(0, -1)], 65536) (List.mem_of_getElem? (i := 0) rfl)
    obtain rfl : (-1 * x0.toInt + 0) = z := Option.some.inj (show some (-1 * x0.toInt + 0) = some z from e6)
    exact e7
  clear m1 m2 m3 m4
  have r0 : 0 ≤ (-1 * x0.toInt + 0) + 65536 := by
    omega
  exact ⟨p, fun _ => rfl, ⟨(fun q h => by cases h), fun q h => (by cases h), (aAllc ⟨_, rfl, r0⟩ (fun f h => by cases h)), (fun f h => by cases h)⟩, [], List.mem_cons_self, fun f h => (by cases h)⟩
theorem rw_rlM3 {N : Int} {K : Nat → Nat} {n : Nat} {JX : (Nat → jcell) → Prop} : aGho (rH N K n) fa_T K n JX ag_rlM3 := by
  refine aGho_of ⟨rfl, rfl⟩ ?_
  intro p σ ρ hH hX hA hM0
  have hG := aAG_of hA.1 (fun i e v he hv => (hA.2 i e v he hv).1)
  clear hA
  obtain ⟨v0, v1, v2, v3, v4, rfl, g0, g1, g2, g3, g4⟩ := rA_5 hG
  clear hG
  obtain ⟨x0, rfl, b0, d0⟩ := rG_ref (by decide) g0
  obtain ⟨x1, rfl, b1, d1⟩ := aG_int g1
  dsimp only at b1 d1
  obtain ⟨x2, rfl, b2, d2⟩ := aG_int g2
  dsimp only at b2 d2
  obtain ⟨x3, rfl, b3, d3⟩ := aG_int g3
  dsimp only at b3 d3
  obtain ⟨x4, rfl, b4, d4⟩ := rG_ref (by decide) g4
  obtain ⟨m1, m2, m3, m4⟩ := hM0
  obtain ⟨T, hT⟩ := rTe_ex hH b0 d0
  obtain ⟨a0, c0, fs0, w0, e1, s0, t0, e4⟩ := m1 (0, 12, 4) (List.mem_of_getElem? (i := 0) rfl)
  obtain rfl : x0 = a0 := Sum.inl.inj (Option.some.inj (Sum.inr.inj (Sum.inr.inj (Option.some.inj (show some (rR x0) = some _ from e1)))))
  obtain rfl : rR x4 = w0 := Option.some.inj (show some (rR x4) = some w0 from e4)
  clear e1 e4
  obtain ⟨a, mc0, ty0, gc0, ic0, e1, sc0, jc0, e4, e5⟩ := m2 (4, ([(1, 301), (2, 1)], 0), 3) (List.mem_of_getElem? (i := 0) rfl)
  obtain rfl : x4 = a := Sum.inl.inj (Option.some.inj (Sum.inr.inj (Sum.inr.inj (Option.some.inj (show some (rR x4) = some _ from e1)))))
  obtain ⟨gc0, rfl⟩ : ∃ g, gc0 = .inl g := by
    rcases gc0 with g | g
    · exact ⟨g, rfl⟩
    · exact absurd (show some (rI x3) = some (.inr (.inl (g ic0))) from e5) (fun h => by cases h)
  have sc0 : σ x4 = .inl (ty0, mc0, .inl gc0) := sc0
  have ec0 : x3 = gc0 ic0 := Sum.inl.inj (Option.some.inj (show some (rI x3) = some _ from e5))
  have kc0 : (ic0 : Int) = (301 * x1.toInt + (1 * x2.toInt + 0)) + 0 := by
    obtain ⟨z, e6, e7⟩ := e4
    obtain rfl : (301 * x1.toInt + (1 * x2.toInt + 0)) = z := Option.some.inj (show some (301 * x1.toInt + (1 * x2.toInt + 0)) = some z from e6)
    exact e7
  clear e1 e4 e5
  have f0 : rB3 N K n p 346 [rR x0, rI x1, rI x2] σ := by
    obtain ⟨w, e6, e7⟩ := m4 (5539, [0, 1, 2]) (List.mem_of_getElem? (i := 0) rfl)
    obtain rfl : [rR x0, rI x1, rI x2] = w := Option.some.inj (show some [rR x0, rI x1, rI x2] = some w from e6)
    exact (rF_b (r := 5539) (by decide) rfl).mp e7
  have f0 := ro3_346.mp f0
  clear m1 m2 m3 m4
  have r0 : 0 ≤ (-1 * x3.toInt + 0) + 3 := by
    obtain ⟨k0, g, r, e⟩ := f0
    have e2 := rRo_c (i := ic0) r s0 t0 sc0 ec0
    rw [show ic0 = (301 * x1.toInt + x2.toInt).toNat by omega] at e2
    omega
  exact ⟨p, fun _ => rfl, ⟨(fun q h => by cases h), fun q h => (by cases h), (aAllc ⟨_, rfl, r0⟩ (fun f h => by cases h)), (fun f h => by cases h)⟩, [], List.mem_cons_self, fun f h => (by cases h)⟩
theorem rw_rlMZ {N : Int} {K : Nat → Nat} {n : Nat} {JX : (Nat → jcell) → Prop} : aGho (rH N K n) fa_T K n JX ag_rlMZ := by
  refine aGho_of ⟨rfl, rfl⟩ ?_
  intro p σ ρ hH hX hA hM0
  have hG := aAG_of hA.1 (fun i e v he hv => (hA.2 i e v he hv).1)
  clear hA
  obtain ⟨v0, v1, v2, rfl, g0, g1, g2⟩ := rA_3 hG
  clear hG
  obtain ⟨x0, rfl, b0, d0⟩ := rG_ref (by decide) g0
  obtain ⟨x1, rfl, b1, d1⟩ := aG_int g1
  dsimp only at b1 d1
  obtain ⟨x2, rfl, b2, d2⟩ := aG_int g2
  dsimp only at b2 d2
  obtain ⟨m1, m2, m3, m4⟩ := hM0
  obtain ⟨T, hT⟩ := rTe_ex hH b0 d0
  have f0 : rB3 N K n p 345 [rR x0, rI x1, rI x2] σ := by
    obtain ⟨w, e6, e7⟩ := m4 (5523, [0, 1, 2]) (List.mem_of_getElem? (i := 0) rfl)
    obtain rfl : [rR x0, rI x1, rI x2] = w := Option.some.inj (show some [rR x0, rI x1, rI x2] = some w from e6)
    exact (rF_b (r := 5523) (by decide) rfl).mp e7
  have f0 := ro3_345.mp f0
  clear m1 m2 m3 m4
  have q0 : rB3 N K n p 346 [rR x0, rI x1, rI x2] σ := ro3_346.mpr (by
    obtain ⟨k0, g, r, e⟩ := f0
    exact ⟨k0, g, r, by omega⟩)
  exact ⟨p, fun _ => rfl, ⟨(fun q h => by cases h), fun q h => (by cases h), (fun f h => by cases h), (aAllc ⟨_, rfl, (rF_b (r := 5539) (by decide) rfl).mpr q0⟩ (fun f h => by cases h))⟩, [], List.mem_cons_self, fun f h => (by cases h)⟩
theorem rw_rlMc {N : Int} {K : Nat → Nat} {n : Nat} {JX : (Nat → jcell) → Prop} : aGho (rH N K n) fa_T K n JX ag_rlMc := by
  refine aGho_of ⟨rfl, rfl⟩ ?_
  intro p σ ρ hH hX hA hM0
  have hG := aAG_of hA.1 (fun i e v he hv => (hA.2 i e v he hv).1)
  clear hA
  obtain ⟨v0, v1, v2, v3, v4, rfl, g0, g1, g2, g3, g4⟩ := rA_5 hG
  clear hG
  obtain ⟨x0, rfl, b0, d0⟩ := rG_ref (by decide) g0
  obtain ⟨x1, rfl, b1, d1⟩ := aG_int g1
  dsimp only at b1 d1
  obtain ⟨x2, rfl, b2, d2⟩ := aG_int g2
  dsimp only at b2 d2
  obtain ⟨x3, rfl, b3, d3⟩ := aG_int g3
  dsimp only at b3 d3
  obtain ⟨x4, rfl, b4, d4⟩ := rG_ref (by decide) g4
  obtain ⟨m1, m2, m3, m4⟩ := hM0
  obtain ⟨T, hT⟩ := rTe_ex hH b0 d0
  obtain ⟨a0, c0, fs0, w0, e1, s0, t0, e4⟩ := m1 (0, 12, 4) (List.mem_of_getElem? (i := 0) rfl)
  obtain rfl : x0 = a0 := Sum.inl.inj (Option.some.inj (Sum.inr.inj (Sum.inr.inj (Option.some.inj (show some (rR x0) = some _ from e1)))))
  obtain rfl : rR x4 = w0 := Option.some.inj (show some (rR x4) = some w0 from e4)
  clear e1 e4
  obtain ⟨a, mc0, ty0, gc0, ic0, e1, sc0, jc0, e4, e5⟩ := m2 (4, ([(1, 301), (2, 1)], 0), 3) (List.mem_of_getElem? (i := 0) rfl)
  obtain rfl : x4 = a := Sum.inl.inj (Option.some.inj (Sum.inr.inj (Sum.inr.inj (Option.some.inj (show some (rR x4) = some _ from e1)))))
  obtain ⟨gc0, rfl⟩ : ∃ g, gc0 = .inl g := by
    rcases gc0 with g | g
    · exact ⟨g, rfl⟩
    · exact absurd (show some (rI x3) = some (.inr (.inl (g ic0))) from e5) (fun h => by cases h)
  have sc0 : σ x4 = .inl (ty0, mc0, .inl gc0) := sc0
  have ec0 : x3 = gc0 ic0 := Sum.inl.inj (Option.some.inj (show some (rI x3) = some _ from e5))
  have kc0 : (ic0 : Int) = (301 * x1.toInt + (1 * x2.toInt + 0)) + 0 := by
    obtain ⟨z, e6, e7⟩ := e4
    obtain rfl : (301 * x1.toInt + (1 * x2.toInt + 0)) = z := Option.some.inj (show some (301 * x1.toInt + (1 * x2.toInt + 0)) = some z from e6)
    exact e7
  clear e1 e4 e5
  clear m1 m2 m3 m4
  have q0 : rB3 N K n p 346 [rR x0, rI x1, rI x2] σ := ro3_346.mpr (by
    obtain ⟨g, r⟩ := rRo_ex (ko := 62) (f := 12) (kr := 70) (len := 602) hH rfl rfl rfl (by decide) b0 d0
    have e2 := rRo_c (i := ic0) r s0 t0 sc0 ec0
    exact ⟨by omega, g, r, by rw [show (301 * x1.toInt + x2.toInt).toNat = ic0 by omega, e2]; omega⟩)
  exact ⟨p, fun _ => rfl, ⟨(fun q h => by cases h), fun q h => (by cases h), (fun f h => by cases h), (aAllc ⟨_, rfl, (rF_b (r := 5539) (by decide) rfl).mpr q0⟩ (fun f h => by cases h))⟩, [], List.mem_cons_self, fun f h => (by cases h)⟩
theorem rw_rlTC {N : Int} {K : Nat → Nat} {n : Nat} {JX : (Nat → jcell) → Prop} : aGho (rH N K n) fa_T K n JX ag_rlTC := by
  refine aGho_of ⟨rfl, rfl⟩ ?_
  intro p σ ρ hH hX hA hM0
  have hG := aAG_of hA.1 (fun i e v he hv => (hA.2 i e v he hv).1)
  clear hA
  obtain ⟨v0, v1, v2, v3, rfl, g0, g1, g2, g3⟩ := rA_4 hG
  clear hG
  obtain ⟨x0, rfl, b0, d0⟩ := rG_ref (by decide) g0
  obtain ⟨x1, rfl, b1, d1⟩ := aG_int g1
  dsimp only at b1 d1
  obtain ⟨x2, rfl, b2, d2⟩ := aG_int g2
  dsimp only at b2 d2
  obtain ⟨x3, rfl, b3, d3⟩ := rG_ref (by decide) g3
  obtain ⟨m1, m2, m3, m4⟩ := hM0
  obtain ⟨T, hT⟩ := rTe_ex hH b0 d0
  obtain ⟨a0, c0, fs0, w0, e1, s0, t0, e4⟩ := m1 (0, 18, 3) (List.mem_of_getElem? (i := 0) rfl)
  obtain rfl : x0 = a0 := Sum.inl.inj (Option.some.inj (Sum.inr.inj (Sum.inr.inj (Option.some.inj (show some (rR x0) = some _ from e1)))))
  obtain rfl : rR x3 = w0 := Option.some.inj (show some (rR x3) = some w0 from e4)
  clear e1 e4
  obtain ⟨a, mc0, ty0, gc0, ic0, e1, sc0, jc0, e4, e5⟩ := m2 (3, ([(1, 1)], 0), 2) (List.mem_of_getElem? (i := 0) rfl)
  obtain rfl : x3 = a := Sum.inl.inj (Option.some.inj (Sum.inr.inj (Sum.inr.inj (Option.some.inj (show some (rR x3) = some _ from e1)))))
  obtain ⟨gc0, rfl⟩ : ∃ g, gc0 = .inl g := by
    rcases gc0 with g | g
    · exact ⟨g, rfl⟩
    · exact absurd (show some (rI x2) = some (.inr (.inl (g ic0))) from e5) (fun h => by cases h)
  have sc0 : σ x3 = .inl (ty0, mc0, .inl gc0) := sc0
  have ec0 : x2 = gc0 ic0 := Sum.inl.inj (Option.some.inj (show some (rI x2) = some _ from e5))
  have kc0 : (ic0 : Int) = (1 * x1.toInt + 0) + 0 := by
    obtain ⟨z, e6, e7⟩ := e4
    obtain rfl : (1 * x1.toInt + 0) = z := Option.some.inj (show some (1 * x1.toInt + 0) = some z from e6)
    exact e7
  clear e1 e4 e5
  clear m1 m2 m3 m4
  have q0 : rB3 N K n p 350 [rR x0, rI x1, rI x2] σ := ro3_350.mpr (by
    obtain ⟨g, r⟩ := rRo_ex (ko := 62) (f := 18) (kr := 76) (len := 2) hH rfl rfl rfl (by decide) b0 d0
    have e2 := rRo_c (i := ic0) r s0 t0 sc0 ec0
    exact ⟨b1, g, r, by rw [show x1.toInt.toNat = ic0 by omega]; exact e2⟩)
  exact ⟨p, fun _ => rfl, ⟨(fun q h => by cases h), fun q h => (by cases h), (fun f h => by cases h), (aAllc ⟨_, rfl, (rF_b (r := 5603) (by decide) rfl).mpr q0⟩ (fun f h => by cases h))⟩, [], List.mem_cons_self, fun f h => (by cases h)⟩
theorem rw_rlTD {N : Int} {K : Nat → Nat} {n : Nat} {JX : (Nat → jcell) → Prop} : aGho (rH N K n) fa_T K n JX ag_rlTD := by
  refine aGho_of ⟨rfl, rfl⟩ ?_
  intro p σ ρ hH hX hA hM0
  have hG := aAG_of hA.1 (fun i e v he hv => (hA.2 i e v he hv).1)
  clear hA
  obtain ⟨v0, v1, v2, v3, v4, rfl, g0, g1, g2, g3, g4⟩ := rA_5 hG
  clear hG
  obtain ⟨x0, rfl, b0, d0⟩ := rG_ref (by decide) g0
  obtain ⟨x1, rfl, b1, d1⟩ := aG_int g1
  dsimp only at b1 d1
  obtain ⟨x2, rfl, b2, d2⟩ := aG_int g2
  dsimp only at b2 d2
  obtain ⟨x3, rfl, b3, d3⟩ := aG_int g3
  dsimp only at b3 d3
  obtain ⟨x4, rfl, b4, d4⟩ := rG_ref (by decide) g4
  obtain ⟨m1, m2, m3, m4⟩ := hM0
  obtain ⟨T, hT⟩ := rTe_ex hH b0 d0
  obtain ⟨a0, c0, fs0, w0, e1, s0, t0, e4⟩ := m1 (0, 18, 4) (List.mem_of_getElem? (i := 0) rfl)
  obtain rfl : x0 = a0 := Sum.inl.inj (Option.some.inj (Sum.inr.inj (Sum.inr.inj (Option.some.inj (show some (rR x0) = some _ from e1)))))
  obtain rfl : rR x4 = w0 := Option.some.inj (show some (rR x4) = some w0 from e4)
  clear e1 e4
  obtain ⟨a, mc0, ty0, gc0, ic0, e1, sc0, jc0, e4, e5⟩ := m2 (4, ([(1, 1)], 0), 2) (List.mem_of_getElem? (i := 0) rfl)
  obtain rfl : x4 = a := Sum.inl.inj (Option.some.inj (Sum.inr.inj (Sum.inr.inj (Option.some.inj (show some (rR x4) = some _ from e1)))))
  obtain ⟨gc0, rfl⟩ : ∃ g, gc0 = .inl g := by
    rcases gc0 with g | g
    · exact ⟨g, rfl⟩
    · exact absurd (show some (rI x2) = some (.inr (.inl (g ic0))) from e5) (fun h => by cases h)
  have sc0 : σ x4 = .inl (ty0, mc0, .inl gc0) := sc0
  have ec0 : x2 = gc0 ic0 := Sum.inl.inj (Option.some.inj (show some (rI x2) = some _ from e5))
  have kc0 : (ic0 : Int) = (1 * x1.toInt + 0) + 0 := by
    obtain ⟨z, e6, e7⟩ := e4
    obtain rfl : (1 * x1.toInt + 0) = z := Option.some.inj (show some (1 * x1.toInt + 0) = some z from e6)
    exact e7
  clear e1 e4 e5
  have f0 : rB3 N K n p 350 [rR x0, rI x1, rI x3] σ := by
    obtain ⟨w, e6, e7⟩ := m4 (5603, [0, 1, 3]) (List.mem_of_getElem? (i := 0) rfl)
    obtain rfl : [rR x0, rI x1, rI x3] = w := Option.some.inj (show some [rR x0, rI x1, rI x3] = some w from e6)
    exact (rF_b (r := 5603) (by decide) rfl).mp e7
  have f0 := ro3_350.mp f0
  clear m1 m2 m3 m4
  have r0 : 0 ≤ (-1 * x2.toInt + 0) + 7 := by
    obtain ⟨k0, g, r, e⟩ := f0
    have e2 := rRo_c (i := ic0) r s0 t0 sc0 ec0
    rw [show ic0 = x1.toInt.toNat by omega] at e2
    omega
  exact ⟨p, fun _ => rfl, ⟨(fun q h => by cases h), fun q h => (by cases h), (aAllc ⟨_, rfl, r0⟩ (fun f h => by cases h)), (fun f h => by cases h)⟩, [], List.mem_cons_self, fun f h => (by cases h)⟩
theorem rw_rlGX {N : Int} {K : Nat → Nat} {n : Nat} {JX : (Nat → jcell) → Prop} : aGho (rH N K n) fa_T K n JX ag_rlGX := by
  refine aGho_of ⟨rfl, rfl⟩ ?_
  intro p σ ρ hH hX hA hM0
  have hG := aAG_of hA.1 (fun i e v he hv => (hA.2 i e v he hv).1)
  clear hA
  obtain ⟨v0, v1, rfl, g0, g1⟩ := rA_2 hG
  clear hG
  obtain ⟨x0, rfl, b0, d0⟩ := rG_ref (by decide) g0
  obtain ⟨x1, rfl, b1, d1⟩ := aG_int g1
  dsimp only at b1 d1
  obtain ⟨m1, m2, m3, m4⟩ := hM0
  obtain ⟨T, hT⟩ := rTe_ex hH b0 d0
  have f0 : rB3 N K n p 282 [rR x0, rI x1] σ := by
    obtain ⟨w, e6, e7⟩ := m4 (4514, [0, 1]) (List.mem_of_getElem? (i := 0) rfl)
    obtain rfl : [rR x0, rI x1] = w := Option.some.inj (show some [rR x0, rI x1] = some w from e6)
    exact (rF_b (r := 4514) (by decide) rfl).mp e7
  have f0 := ro3_282_2.mp f0
  clear m1 m2 m3 m4
  have q0 : rB3 N K n p 282 [rR x0] σ := ro3_282_1.mpr (by
    exact f0 (by omega))
  exact ⟨p, fun _ => rfl, ⟨(fun q h => by cases h), fun q h => (by cases h), (fun f h => by cases h), (aAllc ⟨_, rfl, (rF_b (r := 4513) (by decide) rfl).mpr q0⟩ (fun f h => by cases h))⟩, [], List.mem_cons_self, fun f h => (by cases h)⟩
theorem rw_rlLp {N : Int} {K : Nat → Nat} {n : Nat} {JX : (Nat → jcell) → Prop} : aGho (rH N K n) fa_T K n JX ag_rlLp := by
  refine aGho_of ⟨rfl, rfl⟩ ?_
  intro p σ ρ hH hX hA hM0
  have hG := aAG_of hA.1 (fun i e v he hv => (hA.2 i e v he hv).1)
  clear hA
  obtain ⟨v0, v1, v2, v3, rfl, g0, g1, g2, g3⟩ := rA_4 hG
  clear hG
  obtain ⟨x0, rfl, b0, d0⟩ := rG_ref (by decide) g0
  obtain ⟨x1, rfl, b1, d1⟩ := aG_int g1
  dsimp only at b1 d1
  obtain ⟨x2, rfl, b2, d2⟩ := aG_int g2
  dsimp only at b2 d2
  obtain ⟨x3, rfl, b3, d3⟩ := aG_int g3
  dsimp only at b3 d3
  obtain ⟨m1, m2, m3, m4⟩ := hM0
  obtain ⟨T, hT⟩ := rTe_ex hH b0 d0
  obtain ⟨a0, c0, fs0, w0, e1, s0, t0, e4⟩ := m1 (0, 37, 2) (List.mem_of_getElem? (i := 0) rfl)
  obtain rfl : x0 = a0 := Sum.inl.inj (Option.some.inj (Sum.inr.inj (Sum.inr.inj (Option.some.inj (show some (rR x0) = some _ from e1)))))
  obtain rfl : rI x2 = w0 := Option.some.inj (show some (rI x2) = some w0 from e4)
  clear e1 e4
  obtain ⟨a1, c1, fs1, w1, e1, s1, t1, e4⟩ := m1 (0, 1, 3) (List.mem_of_getElem? (i := 1) rfl)
  obtain rfl : x0 = a1 := Sum.inl.inj (Option.some.inj (Sum.inr.inj (Sum.inr.inj (Option.some.inj (show some (rR x0) = some _ from e1)))))
  obtain rfl : rI x3 = w1 := Option.some.inj (show some (rI x3) = some w1 from e4)
  clear e1 e4
  have l0 : 0 ≤ (1 * x1.toInt + 0) + -1 := by
    obtain ⟨z, e6, e7⟩ := m3 ([(1, 1)], -1) (List.mem_of_getElem? (i := 0) rfl)
    obtain rfl : (1 * x1.toInt + 0) = z := Option.some.inj (show some (1 * x1.toInt + 0) = some z from e6)
    exact e7
  have f0 : rB3 N K n p 348 [rR x0, rI x1] σ := by
    obtain ⟨w, e6, e7⟩ := m4 (5570, [0, 1]) (List.mem_of_getElem? (i := 0) rfl)
    obtain rfl : [rR x0, rI x1] = w := Option.some.inj (show some [rR x0, rI x1] = some w from e6)
    exact (rF_b (r := 5570) (by decide) rfl).mp e7
  have f0 := ro3_348.mp f0
  clear m1 m2 m3 m4
  have r0 : 0 ≤ (1 * x3.toInt + (-1 * x2.toInt + 0)) + -1 := by
    obtain ⟨g, t, e, ⟨h0, h1, h2⟩, h3⟩ := f0
    cases rOb_u h1 ⟨b0, d0, _, _, s0, t0⟩
    cases rOb_u h2 ⟨b0, d0, _, _, s1, t1⟩
    unfold rLk9 at h3
    by_cases cc : x2.toInt < x3.toInt
    · omega
    · rw [if_neg cc] at h3
      omega
  exact ⟨p, fun _ => rfl, ⟨(fun q h => by cases h), fun q h => (by cases h), (aAllc ⟨_, rfl, r0⟩ (fun f h => by cases h)), (fun f h => by cases h)⟩, [], List.mem_cons_self, fun f h => (by cases h)⟩
theorem rw_roK {N : Int} {K : Nat → Nat} {n : Nat} {JX : (Nat → jcell) → Prop} : aGho (rH N K n) fa_T K n JX ag_roK := by
  refine aGho_of ⟨rfl, rfl⟩ ?_
  intro p σ ρ hH hX hA hM0
  have hG := aAG_of hA.1 (fun i e v he hv => (hA.2 i e v he hv).1)
  clear hA
  obtain ⟨v0, v1, v2, v3, v4, v5, rfl, g0, g1, g2, g3, g4, g5⟩ := rA_6 hG
  clear hG
  obtain ⟨x0, rfl, b0, d0⟩ := rG_ref (by decide) g0
  obtain ⟨x1, rfl, b1, d1⟩ := rG_ref (by decide) g1
  obtain ⟨x2, rfl, b2, d2⟩ := aG_int g2
  dsimp only at b2 d2
  obtain ⟨x3, rfl, b3, d3⟩ := aG_int g3
  dsimp only at b3 d3
  obtain ⟨x4, rfl, b4, d4⟩ := aG_int g4
  dsimp only at b4 d4
  obtain ⟨x5, rfl, b5, d5⟩ := aG_int g5
  dsimp only at b5 d5
  obtain ⟨m1, m2, m3, m4⟩ := hM0
  obtain ⟨T, hT⟩ := rTe_ex hH b0 d0
  obtain ⟨a0, c0, fs0, w0, e1, s0, t0, e4⟩ := m1 (0, 7, 1) (List.mem_of_getElem? (i := 0) rfl)
  obtain rfl : x0 = a0 := Sum.inl.inj (Option.some.inj (Sum.inr.inj (Sum.inr.inj (Option.some.inj (show some (rR x0) = some _ from e1)))))
  obtain rfl : rR x1 = w0 := Option.some.inj (show some (rR x1) = some w0 from e4)
  clear e1 e4
  have l0 : 0 ≤ (1 * x4.toInt + (1 * x2.toInt + 0)) + -1 := by
    obtain ⟨z, e6, e7⟩ := m3 ([(4, 1), (2, 1)], -1) (List.mem_of_getElem? (i := 0) rfl)
    obtain rfl : (1 * x4.toInt + (1 * x2.toInt + 0)) = z := Option.some.inj (show some (1 * x4.toInt + (1 * x2.toInt + 0)) = some z from e6)
    exact e7
  have l1 : 0 ≤ (-1 * x4.toInt + (-1 * x2.toInt + 0)) + 1 := by
    obtain ⟨z, e6, e7⟩ := m3 ([(4, -1), (2, -1)], 1) (List.mem_of_getElem? (i := 1) rfl)
    obtain rfl : (-1 * x4.toInt + (-1 * x2.toInt + 0)) = z := Option.some.inj (show some (-1 * x4.toInt + (-1 * x2.toInt + 0)) = some z from e6)
    exact e7
  have f0 : rB3 N K n p 349 [rR x0, rI x2, rI x3] σ := by
    obtain ⟨w, e6, e7⟩ := m4 (5587, [0, 2, 3]) (List.mem_of_getElem? (i := 0) rfl)
    obtain rfl : [rR x0, rI x2, rI x3] = w := Option.some.inj (show some [rR x0, rI x2, rI x3] = some w from e6)
    exact (rF_b (r := 5587) (by decide) rfl).mp e7
  obtain ⟨C, y, hY, f0⟩ := ro3_349.mp f0
  clear m1 m2 m3 m4
  have q0 : rB3 N K n p 349 [rR x0, rI x2, rI x3] (jup σ x1 (jsto (σ x1) x4.toNatClampNeg x5)) := ro3_349.mpr (by
    obtain ⟨⟨h1, h2, h3, h4, g5, g6, r5, r6, e5, e6⟩, ⟨gC, rC, eC⟩, hT⟩ := hY
    obtain ⟨g1, r1, z1⟩ := h1
    obtain ⟨g2, r2, z2⟩ := h2
    obtain ⟨g3, r3, z3⟩ := h3
    obtain ⟨g4, r4, z4⟩ := h4
    refine ⟨C, y, ⟨⟨⟨g1, rRo_o r1 (by omega) (by omega), z1⟩, ⟨g2, rRo_o r2 (by omega) (by omega), z2⟩, ⟨g3, rRo_o r3 (by omega) (by omega), z3⟩, ⟨g4, rRo_o r4 (by omega) (by omega), z4⟩, g5, g6, rRo_o r5 (by omega) (by omega), rRo_o r6 (by omega) (by omega), e5, e6⟩, ⟨_, rRo_up rC s0 t0, ?_⟩, hT⟩, f0⟩
    have hi : x4.toNatClampNeg = x4.toInt.toNat := rfl
    unfold upd
    rw [if_neg (by rw [hi]; omega)]
    exact eC)
  exact ⟨p, fun _ => rfl, ⟨(fun q h => by cases h), fun q h => (by cases h), (fun f h => by cases h), (aAllc ⟨_, rfl, rF_p (r := 5587) (by decide) (by decide) q0⟩ (fun f h => by cases h))⟩, [], List.mem_cons_self, fun f h => (by cases h)⟩
theorem rw_roC {N : Int} {K : Nat → Nat} {n : Nat} {JX : (Nat → jcell) → Prop} : aGho (rH N K n) fa_T K n JX ag_roC := by
  refine aGho_of ⟨rfl, rfl⟩ ?_
  intro p σ ρ hH hX hA hM0
  have hG := aAG_of hA.1 (fun i e v he hv => (hA.2 i e v he hv).1)
  clear hA
  obtain ⟨v0, v1, v2, v3, v4, v5, rfl, g0, g1, g2, g3, g4, g5⟩ := rA_6 hG
  clear hG
  obtain ⟨x0, rfl, b0, d0⟩ := rG_ref (by decide) g0
  obtain ⟨x1, rfl, b1, d1⟩ := rG_ref (by decide) g1
  obtain ⟨x2, rfl, b2, d2⟩ := aG_int g2
  dsimp only at b2 d2
  obtain ⟨x3, rfl, b3, d3⟩ := aG_int g3
  dsimp only at b3 d3
  obtain ⟨x4, rfl, b4, d4⟩ := aG_int g4
  dsimp only at b4 d4
  obtain ⟨x5, rfl, b5, d5⟩ := aG_int g5
  dsimp only at b5 d5
  obtain ⟨m1, m2, m3, m4⟩ := hM0
  obtain ⟨T, hT⟩ := rTe_ex hH b0 d0
  obtain ⟨a0, c0, fs0, w0, e1, s0, t0, e4⟩ := m1 (0, 10, 1) (List.mem_of_getElem? (i := 0) rfl)
  obtain rfl : x0 = a0 := Sum.inl.inj (Option.some.inj (Sum.inr.inj (Sum.inr.inj (Option.some.inj (show some (rR x0) = some _ from e1)))))
  obtain rfl : rR x1 = w0 := Option.some.inj (show some (rR x1) = some w0 from e4)
  clear e1 e4
  have l0 : 0 ≤ (1 * x4.toInt + (301 * x2.toInt + 0)) + -301 := by
    obtain ⟨z, e6, e7⟩ := m3 ([(4, 1), (2, 301)], -301) (List.mem_of_getElem? (i := 0) rfl)
    obtain rfl : (1 * x4.toInt + (301 * x2.toInt + 0)) = z := Option.some.inj (show some (1 * x4.toInt + (301 * x2.toInt + 0)) = some z from e6)
    exact e7
  have l1 : 0 ≤ (-1 * x4.toInt + (-301 * x2.toInt + 0)) + 601 := by
    obtain ⟨z, e6, e7⟩ := m3 ([(4, -1), (2, -301)], 601) (List.mem_of_getElem? (i := 1) rfl)
    obtain rfl : (-1 * x4.toInt + (-301 * x2.toInt + 0)) = z := Option.some.inj (show some (-1 * x4.toInt + (-301 * x2.toInt + 0)) = some z from e6)
    exact e7
  have f0 : rB3 N K n p 349 [rR x0, rI x2, rI x3] σ := by
    obtain ⟨w, e6, e7⟩ := m4 (5587, [0, 2, 3]) (List.mem_of_getElem? (i := 0) rfl)
    obtain rfl : [rR x0, rI x2, rI x3] = w := Option.some.inj (show some [rR x0, rI x2, rI x3] = some w from e6)
    exact (rF_b (r := 5587) (by decide) rfl).mp e7
  obtain ⟨C, y, hY, f0⟩ := ro3_349.mp f0
  clear m1 m2 m3 m4
  have q0 : rB3 N K n p 349 [rR x0, rI x2, rI x3] (jup σ x1 (jsto (σ x1) x4.toNatClampNeg x5)) := ro3_349.mpr (by
    obtain ⟨y', hY'⟩ := rTY_ot (f := 10) (kr := 68) (i := x4) (v := x5) hY b2 (by omega) s0 t0 d1 (by omega) (by omega)
    exact ⟨C, y', hY', f0⟩)
  exact ⟨p, fun _ => rfl, ⟨(fun q h => by cases h), fun q h => (by cases h), (fun f h => by cases h), (aAllc ⟨_, rfl, rF_p (r := 5587) (by decide) (by decide) q0⟩ (fun f h => by cases h))⟩, [], List.mem_cons_self, fun f h => (by cases h)⟩
theorem rw_roN {N : Int} {K : Nat → Nat} {n : Nat} {JX : (Nat → jcell) → Prop} : aGho (rH N K n) fa_T K n JX ag_roN := by
  refine aGho_of ⟨rfl, rfl⟩ ?_
  intro p σ ρ hH hX hA hM0
  have hG := aAG_of hA.1 (fun i e v he hv => (hA.2 i e v he hv).1)
  clear hA
  obtain ⟨v0, v1, v2, v3, v4, v5, rfl, g0, g1, g2, g3, g4, g5⟩ := rA_6 hG
  clear hG
  obtain ⟨x0, rfl, b0, d0⟩ := rG_ref (by decide) g0
  obtain ⟨x1, rfl, b1, d1⟩ := rG_ref (by decide) g1
  obtain ⟨x2, rfl, b2, d2⟩ := aG_int g2
  dsimp only at b2 d2
  obtain ⟨x3, rfl, b3, d3⟩ := aG_int g3
  dsimp only at b3 d3
  obtain ⟨x4, rfl, b4, d4⟩ := aG_int g4
  dsimp only at b4 d4
  obtain ⟨x5, rfl, b5, d5⟩ := aG_int g5
  dsimp only at b5 d5
  obtain ⟨m1, m2, m3, m4⟩ := hM0
  obtain ⟨T, hT⟩ := rTe_ex hH b0 d0
  obtain ⟨a0, c0, fs0, w0, e1, s0, t0, e4⟩ := m1 (0, 11, 1) (List.mem_of_getElem? (i := 0) rfl)
  obtain rfl : x0 = a0 := Sum.inl.inj (Option.some.inj (Sum.inr.inj (Sum.inr.inj (Option.some.inj (show some (rR x0) = some _ from e1)))))
  obtain rfl : rR x1 = w0 := Option.some.inj (show some (rR x1) = some w0 from e4)
  clear e1 e4
  have l0 : 0 ≤ (1 * x4.toInt + (301 * x2.toInt + 0)) + -301 := by
    obtain ⟨z, e6, e7⟩ := m3 ([(4, 1), (2, 301)], -301) (List.mem_of_getElem? (i := 0) rfl)
    obtain rfl : (1 * x4.toInt + (301 * x2.toInt + 0)) = z := Option.some.inj (show some (1 * x4.toInt + (301 * x2.toInt + 0)) = some z from e6)
    exact e7
  have l1 : 0 ≤ (-1 * x4.toInt + (-301 * x2.toInt + 0)) + 601 := by
    obtain ⟨z, e6, e7⟩ := m3 ([(4, -1), (2, -301)], 601) (List.mem_of_getElem? (i := 1) rfl)
    obtain rfl : (-1 * x4.toInt + (-301 * x2.toInt + 0)) = z := Option.some.inj (show some (-1 * x4.toInt + (-301 * x2.toInt + 0)) = some z from e6)
    exact e7
  have f0 : rB3 N K n p 349 [rR x0, rI x2, rI x3] σ := by
    obtain ⟨w, e6, e7⟩ := m4 (5587, [0, 2, 3]) (List.mem_of_getElem? (i := 0) rfl)
    obtain rfl : [rR x0, rI x2, rI x3] = w := Option.some.inj (show some [rR x0, rI x2, rI x3] = some w from e6)
    exact (rF_b (r := 5587) (by decide) rfl).mp e7
  obtain ⟨C, y, hY, f0⟩ := ro3_349.mp f0
  clear m1 m2 m3 m4
  have q0 : rB3 N K n p 349 [rR x0, rI x2, rI x3] (jup σ x1 (jsto (σ x1) x4.toNatClampNeg x5)) := ro3_349.mpr (by
    obtain ⟨y', hY'⟩ := rTY_ot (f := 11) (kr := 69) (i := x4) (v := x5) hY b2 (by omega) s0 t0 d1 (by omega) (by omega)
    exact ⟨C, y', hY', f0⟩)
  exact ⟨p, fun _ => rfl, ⟨(fun q h => by cases h), fun q h => (by cases h), (fun f h => by cases h), (aAllc ⟨_, rfl, rF_p (r := 5587) (by decide) (by decide) q0⟩ (fun f h => by cases h))⟩, [], List.mem_cons_self, fun f h => (by cases h)⟩
theorem rw_roP {N : Int} {K : Nat → Nat} {n : Nat} {JX : (Nat → jcell) → Prop} : aGho (rH N K n) fa_T K n JX ag_roP := by
  refine aGho_of ⟨rfl, rfl⟩ ?_
  intro p σ ρ hH hX hA hM0
  have hG := aAG_of hA.1 (fun i e v he hv => (hA.2 i e v he hv).1)
  clear hA
  obtain ⟨v0, v1, v2, v3, v4, v5, rfl, g0, g1, g2, g3, g4, g5⟩ := rA_6 hG
  clear hG
  obtain ⟨x0, rfl, b0, d0⟩ := rG_ref (by decide) g0
  obtain ⟨x1, rfl, b1, d1⟩ := rG_ref (by decide) g1
  obtain ⟨x2, rfl, b2, d2⟩ := aG_int g2
  dsimp only at b2 d2
  obtain ⟨x3, rfl, b3, d3⟩ := aG_int g3
  dsimp only at b3 d3
  obtain ⟨x4, rfl, b4, d4⟩ := aG_int g4
  dsimp only at b4 d4
  obtain ⟨x5, rfl, b5, d5⟩ := aG_int g5
  dsimp only at b5 d5
  obtain ⟨m1, m2, m3, m4⟩ := hM0
  obtain ⟨T, hT⟩ := rTe_ex hH b0 d0
  obtain ⟨a0, c0, fs0, w0, e1, s0, t0, e4⟩ := m1 (0, 8, 1) (List.mem_of_getElem? (i := 0) rfl)
  obtain rfl : x0 = a0 := Sum.inl.inj (Option.some.inj (Sum.inr.inj (Sum.inr.inj (Option.some.inj (show some (rR x0) = some _ from e1)))))
  obtain rfl : rR x1 = w0 := Option.some.inj (show some (rR x1) = some w0 from e4)
  clear e1 e4
  have l0 : 0 ≤ (1 * x4.toInt + (301 * x2.toInt + 0)) + -301 := by
    obtain ⟨z, e6, e7⟩ := m3 ([(4, 1), (2, 301)], -301) (List.mem_of_getElem? (i := 0) rfl)
    obtain rfl : (1 * x4.toInt + (301 * x2.toInt + 0)) = z := Option.some.inj (show some (1 * x4.toInt + (301 * x2.toInt + 0)) = some z from e6)
    exact e7
  have l1 : 0 ≤ (-1 * x4.toInt + (-301 * x2.toInt + 0)) + 601 := by
    obtain ⟨z, e6, e7⟩ := m3 ([(4, -1), (2, -301)], 601) (List.mem_of_getElem? (i := 1) rfl)
    obtain rfl : (-1 * x4.toInt + (-301 * x2.toInt + 0)) = z := Option.some.inj (show some (-1 * x4.toInt + (-301 * x2.toInt + 0)) = some z from e6)
    exact e7
  have f0 : rB3 N K n p 349 [rR x0, rI x2, rI x3] σ := by
    obtain ⟨w, e6, e7⟩ := m4 (5587, [0, 2, 3]) (List.mem_of_getElem? (i := 0) rfl)
    obtain rfl : [rR x0, rI x2, rI x3] = w := Option.some.inj (show some [rR x0, rI x2, rI x3] = some w from e6)
    exact (rF_b (r := 5587) (by decide) rfl).mp e7
  obtain ⟨C, y, hY, f0⟩ := ro3_349.mp f0
  clear m1 m2 m3 m4
  have q0 : rB3 N K n p 349 [rR x0, rI x2, rI x3] (jup σ x1 (jsto (σ x1) x4.toNatClampNeg x5)) := ro3_349.mpr (by
    obtain ⟨y', hY'⟩ := rTY_ot (f := 8) (kr := 66) (i := x4) (v := x5) hY b2 (by omega) s0 t0 d1 (by omega) (by omega)
    exact ⟨C, y', hY', f0⟩)
  exact ⟨p, fun _ => rfl, ⟨(fun q h => by cases h), fun q h => (by cases h), (fun f h => by cases h), (aAllc ⟨_, rfl, rF_p (r := 5587) (by decide) (by decide) q0⟩ (fun f h => by cases h))⟩, [], List.mem_cons_self, fun f h => (by cases h)⟩
theorem rw_roM {N : Int} {K : Nat → Nat} {n : Nat} {JX : (Nat → jcell) → Prop} : aGho (rH N K n) fa_T K n JX ag_roM := by
  refine aGho_of ⟨rfl, rfl⟩ ?_
  intro p σ ρ hH hX hA hM0
  have hG := aAG_of hA.1 (fun i e v he hv => (hA.2 i e v he hv).1)
  clear hA
  obtain ⟨v0, v1, v2, v3, v4, v5, rfl, g0, g1, g2, g3, g4, g5⟩ := rA_6 hG
  clear hG
  obtain ⟨x0, rfl, b0, d0⟩ := rG_ref (by decide) g0
  obtain ⟨x1, rfl, b1, d1⟩ := rG_ref (by decide) g1
  obtain ⟨x2, rfl, b2, d2⟩ := aG_int g2
  dsimp only at b2 d2
  obtain ⟨x3, rfl, b3, d3⟩ := aG_int g3
  dsimp only at b3 d3
  obtain ⟨x4, rfl, b4, d4⟩ := aG_int g4
  dsimp only at b4 d4
  obtain ⟨x5, rfl, b5, d5⟩ := aG_int g5
  dsimp only at b5 d5
  obtain ⟨m1, m2, m3, m4⟩ := hM0
  obtain ⟨T, hT⟩ := rTe_ex hH b0 d0
  obtain ⟨a0, c0, fs0, w0, e1, s0, t0, e4⟩ := m1 (0, 9, 1) (List.mem_of_getElem? (i := 0) rfl)
  obtain rfl : x0 = a0 := Sum.inl.inj (Option.some.inj (Sum.inr.inj (Sum.inr.inj (Option.some.inj (show some (rR x0) = some _ from e1)))))
  obtain rfl : rR x1 = w0 := Option.some.inj (show some (rR x1) = some w0 from e4)
  clear e1 e4
  have l0 : 0 ≤ (1 * x4.toInt + (301 * x2.toInt + 0)) + -301 := by
    obtain ⟨z, e6, e7⟩ := m3 ([(4, 1), (2, 301)], -301) (List.mem_of_getElem? (i := 0) rfl)
    obtain rfl : (1 * x4.toInt + (301 * x2.toInt + 0)) = z := Option.some.inj (show some (1 * x4.toInt + (301 * x2.toInt + 0)) = some z from e6)
    exact e7
  have l1 : 0 ≤ (-1 * x4.toInt + (-301 * x2.toInt + 0)) + 601 := by
    obtain ⟨z, e6, e7⟩ := m3 ([(4, -1), (2, -301)], 601) (List.mem_of_getElem? (i := 1) rfl)
    obtain rfl : (-1 * x4.toInt + (-301 * x2.toInt + 0)) = z := Option.some.inj (show some (-1 * x4.toInt + (-301 * x2.toInt + 0)) = some z from e6)
    exact e7
  have f0 : rB3 N K n p 349 [rR x0, rI x2, rI x3] σ := by
    obtain ⟨w, e6, e7⟩ := m4 (5587, [0, 2, 3]) (List.mem_of_getElem? (i := 0) rfl)
    obtain rfl : [rR x0, rI x2, rI x3] = w := Option.some.inj (show some [rR x0, rI x2, rI x3] = some w from e6)
    exact (rF_b (r := 5587) (by decide) rfl).mp e7
  obtain ⟨C, y, hY, f0⟩ := ro3_349.mp f0
  clear m1 m2 m3 m4
  have q0 : rB3 N K n p 349 [rR x0, rI x2, rI x3] (jup σ x1 (jsto (σ x1) x4.toNatClampNeg x5)) := ro3_349.mpr (by
    obtain ⟨y', hY'⟩ := rTY_ot (f := 9) (kr := 67) (i := x4) (v := x5) hY b2 (by omega) s0 t0 d1 (by omega) (by omega)
    exact ⟨C, y', hY', f0⟩)
  exact ⟨p, fun _ => rfl, ⟨(fun q h => by cases h), fun q h => (by cases h), (fun f h => by cases h), (aAllc ⟨_, rfl, rF_p (r := 5587) (by decide) (by decide) q0⟩ (fun f h => by cases h))⟩, [], List.mem_cons_self, fun f h => (by cases h)⟩
theorem rw_roA {N : Int} {K : Nat → Nat} {n : Nat} {JX : (Nat → jcell) → Prop} : aGho (rH N K n) fa_T K n JX ag_roA := by
  refine aGho_of ⟨rfl, rfl⟩ ?_
  intro p σ ρ hH hX hA hM0
  have hG := aAG_of hA.1 (fun i e v he hv => (hA.2 i e v he hv).1)
  clear hA
  obtain ⟨v0, v1, v2, v3, v4, v5, rfl, g0, g1, g2, g3, g4, g5⟩ := rA_6 hG
  clear hG
  obtain ⟨x0, rfl, b0, d0⟩ := rG_ref (by decide) g0
  obtain ⟨x1, rfl, b1, d1⟩ := rG_ref (by decide) g1
  obtain ⟨x2, rfl, b2, d2⟩ := aG_int g2
  dsimp only at b2 d2
  obtain ⟨x3, rfl, b3, d3⟩ := aG_int g3
  dsimp only at b3 d3
  obtain ⟨x4, rfl, b4, d4⟩ := aG_int g4
  dsimp only at b4 d4
  obtain ⟨x5, rfl, b5, d5⟩ := aG_int g5
  dsimp only at b5 d5
  obtain ⟨m1, m2, m3, m4⟩ := hM0
  obtain ⟨T, hT⟩ := rTe_ex hH b0 d0
  obtain ⟨a0, c0, fs0, w0, e1, s0, t0, e4⟩ := m1 (0, 16, 1) (List.mem_of_getElem? (i := 0) rfl)
  obtain rfl : x0 = a0 := Sum.inl.inj (Option.some.inj (Sum.inr.inj (Sum.inr.inj (Option.some.inj (show some (rR x0) = some _ from e1)))))
  obtain rfl : rR x1 = w0 := Option.some.inj (show some (rR x1) = some w0 from e4)
  clear e1 e4
  have l0 : 0 ≤ (1 * x4.toInt + (64 * x2.toInt + 0)) + -64 := by
    obtain ⟨z, e6, e7⟩ := m3 ([(4, 1), (2, 64)], -64) (List.mem_of_getElem? (i := 0) rfl)
    obtain rfl : (1 * x4.toInt + (64 * x2.toInt + 0)) = z := Option.some.inj (show some (1 * x4.toInt + (64 * x2.toInt + 0)) = some z from e6)
    exact e7
  have l1 : 0 ≤ (-1 * x4.toInt + (-64 * x2.toInt + 0)) + 127 := by
    obtain ⟨z, e6, e7⟩ := m3 ([(4, -1), (2, -64)], 127) (List.mem_of_getElem? (i := 1) rfl)
    obtain rfl : (-1 * x4.toInt + (-64 * x2.toInt + 0)) = z := Option.some.inj (show some (-1 * x4.toInt + (-64 * x2.toInt + 0)) = some z from e6)
    exact e7
  have f0 : rB3 N K n p 349 [rR x0, rI x2, rI x3] σ := by
    obtain ⟨w, e6, e7⟩ := m4 (5587, [0, 2, 3]) (List.mem_of_getElem? (i := 0) rfl)
    obtain rfl : [rR x0, rI x2, rI x3] = w := Option.some.inj (show some [rR x0, rI x2, rI x3] = some w from e6)
    exact (rF_b (r := 5587) (by decide) rfl).mp e7
  obtain ⟨C, y, hY, f0⟩ := ro3_349.mp f0
  clear m1 m2 m3 m4
  have q0 : rB3 N K n p 349 [rR x0, rI x2, rI x3] (jup σ x1 (jsto (σ x1) x4.toNatClampNeg x5)) := ro3_349.mpr (by
    obtain ⟨⟨h1, h2, h3, h4, g5, g6, r5, r6, e5, e6⟩, ⟨gC, rC, eC⟩, hT⟩ := hY
    obtain ⟨g1, r1, z1⟩ := h1
    obtain ⟨g2, r2, z2⟩ := h2
    obtain ⟨g3, r3, z3⟩ := h3
    obtain ⟨g4, r4, z4⟩ := h4
    refine ⟨C, y, ⟨⟨⟨g1, rRo_o r1 (by omega) (by omega), z1⟩, ⟨g2, rRo_o r2 (by omega) (by omega), z2⟩, ⟨g3, rRo_o r3 (by omega) (by omega), z3⟩, ⟨g4, rRo_o r4 (by omega) (by omega), z4⟩, _, g6, rRo_up r5 s0 t0, rRo_o r6 (by omega) (by omega), ?_, e6⟩, ⟨gC, rRo_o rC (by omega) (by omega), eC⟩, hT⟩, f0⟩
    rw [e5]
    unfold rS0
    congr 1
    funext i
    have hi : x4.toNatClampNeg = x4.toInt.toNat := rfl
    unfold upd
    by_cases ci : 0 ≤ i ∧ i ≤ 63
    · rw [if_pos ci, if_pos ci, if_neg (by rw [hi]; omega)]
    · rw [if_neg ci, if_neg ci])
  exact ⟨p, fun _ => rfl, ⟨(fun q h => by cases h), fun q h => (by cases h), (fun f h => by cases h), (aAllc ⟨_, rfl, rF_p (r := 5587) (by decide) (by decide) q0⟩ (fun f h => by cases h))⟩, [], List.mem_cons_self, fun f h => (by cases h)⟩
theorem rw_roR {N : Int} {K : Nat → Nat} {n : Nat} {JX : (Nat → jcell) → Prop} : aGho (rH N K n) fa_T K n JX ag_roR := by
  refine aGho_of ⟨rfl, rfl⟩ ?_
  intro p σ ρ hH hX hA hM0
  have hG := aAG_of hA.1 (fun i e v he hv => (hA.2 i e v he hv).1)
  clear hA
  obtain ⟨v0, v1, v2, v3, v4, v5, rfl, g0, g1, g2, g3, g4, g5⟩ := rA_6 hG
  clear hG
  obtain ⟨x0, rfl, b0, d0⟩ := rG_ref (by decide) g0
  obtain ⟨x1, rfl, b1, d1⟩ := rG_ref (by decide) g1
  obtain ⟨x2, rfl, b2, d2⟩ := aG_int g2
  dsimp only at b2 d2
  obtain ⟨x3, rfl, b3, d3⟩ := aG_int g3
  dsimp only at b3 d3
  obtain ⟨x4, rfl, b4, d4⟩ := aG_int g4
  dsimp only at b4 d4
  obtain ⟨x5, rfl, b5, d5⟩ := aG_int g5
  dsimp only at b5 d5
  obtain ⟨m1, m2, m3, m4⟩ := hM0
  obtain ⟨T, hT⟩ := rTe_ex hH b0 d0
  obtain ⟨a0, c0, fs0, w0, e1, s0, t0, e4⟩ := m1 (0, 17, 1) (List.mem_of_getElem? (i := 0) rfl)
  obtain rfl : x0 = a0 := Sum.inl.inj (Option.some.inj (Sum.inr.inj (Sum.inr.inj (Option.some.inj (show some (rR x0) = some _ from e1)))))
  obtain rfl : rR x1 = w0 := Option.some.inj (show some (rR x1) = some w0 from e4)
  clear e1 e4
  have l0 : 0 ≤ (1 * x4.toInt + (5 * x2.toInt + 0)) + -5 := by
    obtain ⟨z, e6, e7⟩ := m3 ([(4, 1), (2, 5)], -5) (List.mem_of_getElem? (i := 0) rfl)
    obtain rfl : (1 * x4.toInt + (5 * x2.toInt + 0)) = z := Option.some.inj (show some (1 * x4.toInt + (5 * x2.toInt + 0)) = some z from e6)
    exact e7
  have l1 : 0 ≤ (-1 * x4.toInt + (-5 * x2.toInt + 0)) + 9 := by
    obtain ⟨z, e6, e7⟩ := m3 ([(4, -1), (2, -5)], 9) (List.mem_of_getElem? (i := 1) rfl)
    obtain rfl : (-1 * x4.toInt + (-5 * x2.toInt + 0)) = z := Option.some.inj (show some (-1 * x4.toInt + (-5 * x2.toInt + 0)) = some z from e6)
    exact e7
  have f0 : rB3 N K n p 349 [rR x0, rI x2, rI x3] σ := by
    obtain ⟨w, e6, e7⟩ := m4 (5587, [0, 2, 3]) (List.mem_of_getElem? (i := 0) rfl)
    obtain rfl : [rR x0, rI x2, rI x3] = w := Option.some.inj (show some [rR x0, rI x2, rI x3] = some w from e6)
    exact (rF_b (r := 5587) (by decide) rfl).mp e7
  obtain ⟨C, y, hY, f0⟩ := ro3_349.mp f0
  clear m1 m2 m3 m4
  have q0 : rB3 N K n p 349 [rR x0, rI x2, rI x3] (jup σ x1 (jsto (σ x1) x4.toNatClampNeg x5)) := ro3_349.mpr (by
    obtain ⟨⟨h1, h2, h3, h4, g5, g6, r5, r6, e5, e6⟩, ⟨gC, rC, eC⟩, hT⟩ := hY
    obtain ⟨g1, r1, z1⟩ := h1
    obtain ⟨g2, r2, z2⟩ := h2
    obtain ⟨g3, r3, z3⟩ := h3
    obtain ⟨g4, r4, z4⟩ := h4
    have hi : x4.toNatClampNeg = x4.toInt.toNat := rfl
    refine ⟨C, y, ⟨⟨⟨g1, rRo_o r1 (by omega) (by omega), z1⟩, ⟨g2, rRo_o r2 (by omega) (by omega), z2⟩, ⟨g3, rRo_o r3 (by omega) (by omega), z3⟩, ⟨g4, rRo_o r4 (by omega) (by omega), z4⟩, g5, _, rRo_o r5 (by omega) (by omega), rRo_up r6 s0 t0, ?_, ?_⟩, ⟨gC, rRo_o rC (by omega) (by omega), eC⟩, hT⟩, f0⟩
    · rw [e5]
      unfold rS0 upd
      rw [if_neg (by rw [hi]; omega), if_neg (by rw [hi]; omega), if_neg (by rw [hi]; omega)]
    · rw [e6]
      unfold upd
      rw [if_neg (by rw [hi]; omega)])
  exact ⟨p, fun _ => rfl, ⟨(fun q h => by cases h), fun q h => (by cases h), (fun f h => by cases h), (aAllc ⟨_, rfl, rF_p (r := 5587) (by decide) (by decide) q0⟩ (fun f h => by cases h))⟩, [], List.mem_cons_self, fun f h => (by cases h)⟩
theorem rw_roMZ {N : Int} {K : Nat → Nat} {n : Nat} {JX : (Nat → jcell) → Prop} : aGho (rH N K n) fa_T K n JX ag_roMZ := by
  refine aGho_of ⟨rfl, rfl⟩ ?_
  intro p σ ρ hH hX hA hM0
  have hG := aAG_of hA.1 (fun i e v he hv => (hA.2 i e v he hv).1)
  clear hA
  obtain ⟨v0, v1, v2, v3, rfl, g0, g1, g2, g3⟩ := rA_4 hG
  clear hG
  obtain ⟨x0, rfl, b0, d0⟩ := rG_ref (by decide) g0
  obtain ⟨x1, rfl, b1, d1⟩ := rG_ref (by decide) g1
  obtain ⟨x2, rfl, b2, d2⟩ := aG_int g2
  dsimp only at b2 d2
  obtain ⟨x3, rfl, b3, d3⟩ := aG_int g3
  dsimp only at b3 d3
  obtain ⟨m1, m2, m3, m4⟩ := hM0
  obtain ⟨T, hT⟩ := rTe_ex hH b0 d0
  obtain ⟨a0, c0, fs0, w0, e1, s0, t0, e4⟩ := m1 (0, 12, 1) (List.mem_of_getElem? (i := 0) rfl)
  obtain rfl : x0 = a0 := Sum.inl.inj (Option.some.inj (Sum.inr.inj (Sum.inr.inj (Option.some.inj (show some (rR x0) = some _ from e1)))))
  obtain rfl : rR x1 = w0 := Option.some.inj (show some (rR x1) = some w0 from e4)
  clear e1 e4
  clear m1 m2 m3 m4
  have q0 : rB3 N K n p 347 [rR x0, rI x2] (jup σ x1 (jsto (σ x1) x2.toNatClampNeg x3)) := ro3_347.mpr (by
    obtain ⟨g, h⟩ := rRo_of (k := 62) (f := 12) (kr := 70) (len := 602) hH b0 d0 s0 t0 b1 d1 rfl
    refine ⟨by omega, _, rRo_up h s0 t0, ?_⟩
    have hi : x2.toNatClampNeg = x2.toInt.toNat := rfl
    unfold upd
    rw [if_pos (by rw [hi])]
    omega)
  exact ⟨p, fun _ => rfl, ⟨(fun q h => by cases h), fun q h => (by cases h), (fun f h => by cases h), (aAllc ⟨_, rfl, rF_p (r := 5554) (by decide) (by decide) q0⟩ (fun f h => by cases h))⟩, [], List.mem_cons_self, fun f h => (by cases h)⟩
theorem rw_roL0 {N : Int} {K : Nat → Nat} {n : Nat} {JX : (Nat → jcell) → Prop} : aGho (rH N K n) fa_T K n JX ag_roL0 := by
  refine aGho_of ⟨rfl, rfl⟩ ?_
  intro p σ ρ hH hX hA hM0
  have hG := aAG_of hA.1 (fun i e v he hv => (hA.2 i e v he hv).1)
  clear hA
  obtain ⟨v0, v1, v2, v3, v4, rfl, g0, g1, g2, g3, g4⟩ := rA_5 hG
  clear hG
  obtain ⟨x0, rfl, b0, d0⟩ := rG_ref (by decide) g0
  obtain ⟨x1, rfl, b1, d1⟩ := aG_int g1
  dsimp only at b1 d1
  obtain ⟨x2, rfl, b2, d2⟩ := aG_int g2
  dsimp only at b2 d2
  obtain ⟨x3, rfl, b3, d3⟩ := aG_int g3
  dsimp only at b3 d3
  obtain ⟨x4, rfl, b4, d4⟩ := rG_ref (by decide) g4
  obtain ⟨m1, m2, m3, m4⟩ := hM0
  obtain ⟨T, hT⟩ := rTe_ex hH b0 d0
  obtain ⟨a0, c0, fs0, w0, e1, s0, t0, e4⟩ := m1 (0, 7, 4) (List.mem_of_getElem? (i := 0) rfl)
  obtain rfl : x0 = a0 := Sum.inl.inj (Option.some.inj (Sum.inr.inj (Sum.inr.inj (Option.some.inj (show some (rR x0) = some _ from e1)))))
  obtain rfl : rR x4 = w0 := Option.some.inj (show some (rR x4) = some w0 from e4)
  clear e1 e4
  obtain ⟨a, mc0, ty0, gc0, ic0, e1, sc0, jc0, e4, e5⟩ := m2 (4, ([(1, 1)], 0), 2) (List.mem_of_getElem? (i := 0) rfl)
  obtain rfl : x4 = a := Sum.inl.inj (Option.some.inj (Sum.inr.inj (Sum.inr.inj (Option.some.inj (show some (rR x4) = some _ from e1)))))
  obtain ⟨gc0, rfl⟩ : ∃ g, gc0 = .inl g := by
    rcases gc0 with g | g
    · exact ⟨g, rfl⟩
    · exact absurd (show some (rI x2) = some (.inr (.inl (g ic0))) from e5) (fun h => by cases h)
  have sc0 : σ x4 = .inl (ty0, mc0, .inl gc0) := sc0
  have ec0 : x2 = gc0 ic0 := Sum.inl.inj (Option.some.inj (show some (rI x2) = some _ from e5))
  have kc0 : (ic0 : Int) = (1 * x1.toInt + 0) + 0 := by
    obtain ⟨z, e6, e7⟩ := e4
    obtain rfl : (1 * x1.toInt + 0) = z := Option.some.inj (show some (1 * x1.toInt + 0) = some z from e6)
    exact e7
  clear e1 e4 e5
  have l0 : 0 ≤ (1 * x3.toInt + (-1 * x2.toInt + 0)) + -1 := by
    obtain ⟨z, e6, e7⟩ := m3 ([(3, 1), (2, -1)], -1) (List.mem_of_getElem? (i := 0) rfl)
    obtain rfl : (1 * x3.toInt + (-1 * x2.toInt + 0)) = z := Option.some.inj (show some (1 * x3.toInt + (-1 * x2.toInt + 0)) = some z from e6)
    exact e7
  have f0 : rB3 N K n p 453 [rR x0, rI x1] σ := by
    obtain ⟨w, e6, e7⟩ := m4 (7250, [0, 1]) (List.mem_of_getElem? (i := 0) rfl)
    obtain rfl : [rR x0, rI x1] = w := Option.some.inj (show some [rR x0, rI x1] = some w from e6)
    exact (rF_b (r := 7250) (by decide) rfl).mp e7
  obtain ⟨C, y, hY, f0⟩ := ro3_453.mp f0
  clear m1 m2 m3 m4
  have q0 : rB3 N K n p 451 [rI x3] σ := ro3_451.mpr (by
    obtain ⟨z, hz, hz2⟩ := f0
    obtain ⟨gC, rC, eC⟩ := hY.2.1
    have e0 := rRo_c (i := ic0) rC s0 t0 sc0 ec0
    rw [show ic0 = x1.toInt.toNat by omega, eC] at e0
    exact ⟨z, hz, by omega⟩)
  exact ⟨p, fun _ => rfl, ⟨(fun q h => by cases h), fun q h => (by cases h), (fun f h => by cases h), (aAllc ⟨_, rfl, (rF_b (r := 7217) (by decide) rfl).mpr q0⟩ (fun f h => by cases h))⟩, [], List.mem_cons_self, fun f h => (by cases h)⟩
theorem rw_roL1 {N : Int} {K : Nat → Nat} {n : Nat} {JX : (Nat → jcell) → Prop} : aGho (rH N K n) fa_T K n JX ag_roL1 := by
  refine aGho_of ⟨rfl, rfl⟩ ?_
  intro p σ ρ hH hX hA hM0
  have hG := aAG_of hA.1 (fun i e v he hv => (hA.2 i e v he hv).1)
  clear hA
  obtain ⟨v0, v1, v2, rfl, g0, g1, g2⟩ := rA_3 hG
  clear hG
  obtain ⟨x0, rfl, b0, d0⟩ := rG_ref (by decide) g0
  obtain ⟨x1, rfl, b1, d1⟩ := aG_int g1
  dsimp only at b1 d1
  obtain ⟨x2, rfl, b2, d2⟩ := aG_int g2
  dsimp only at b2 d2
  obtain ⟨m1, m2, m3, m4⟩ := hM0
  obtain ⟨T, hT⟩ := rTe_ex hH b0 d0
  have f0 : rB3 N K n p 451 [rI x2] σ := by
    obtain ⟨w, e6, e7⟩ := m4 (7217, [2]) (List.mem_of_getElem? (i := 0) rfl)
    obtain rfl : [rI x2] = w := Option.some.inj (show some [rI x2] = some w from e6)
    exact (rF_b (r := 7217) (by decide) rfl).mp e7
  have f0 := ro3_451.mp f0
  have f1 : rB3 N K n p 241 [rR x0, rI x1, rI x2] σ := by
    obtain ⟨w, e6, e7⟩ := m4 (3859, [0, 1, 2]) (List.mem_of_getElem? (i := 1) rfl)
    obtain rfl : [rR x0, rI x1, rI x2] = w := Option.some.inj (show some [rR x0, rI x1, rI x2] = some w from e6)
    exact (rF_b (r := 3859) (by decide) rfl).mp e7
  obtain ⟨C, y, hY, f1⟩ := ro3_241.mp f1
  clear m1 m2 m3 m4
  have q0 : rB3 N K n p 453 [rR x0, rI x1] σ := ro3_453.mpr ⟨C, y, hY, by
    obtain ⟨z, hz, hz2⟩ := f0
    exact ⟨z, hz, by have := f1.2; omega⟩⟩
  exact ⟨p, fun _ => rfl, ⟨(fun q h => by cases h), fun q h => (by cases h), (fun f h => by cases h), (aAllc ⟨_, rfl, (rF_b (r := 7250) (by decide) rfl).mpr q0⟩ (fun f h => by cases h))⟩, [], List.mem_cons_self, fun f h => (by cases h)⟩
theorem rw_roMk {N : Int} {K : Nat → Nat} {n : Nat} {JX : (Nat → jcell) → Prop} : aGho (rH N K n) fa_T K n JX ag_roMk := by
  refine aGho_of ⟨rfl, rfl⟩ ?_
  intro p σ ρ hH hX hA hM0
  have hG := aAG_of hA.1 (fun i e v he hv => (hA.2 i e v he hv).1)
  clear hA
  obtain ⟨v0, v1, v2, v3, rfl, g0, g1, g2, g3⟩ := rA_4 hG
  clear hG
  obtain ⟨x0, rfl, b0, d0⟩ := rG_ref (by decide) g0
  obtain ⟨x1, rfl, b1, d1⟩ := aG_int g1
  dsimp only at b1 d1
  obtain ⟨x2, rfl, b2, d2⟩ := aG_int g2
  dsimp only at b2 d2
  obtain ⟨x3, rfl, b3, d3⟩ := aG_int g3
  dsimp only at b3 d3
  obtain ⟨m1, m2, m3, m4⟩ := hM0
  obtain ⟨T, hT⟩ := rTe_ex hH b0 d0
  have l0 : 0 ≤ (1 * x3.toInt + (-301 * x1.toInt + (-1 * x2.toInt + 0))) + 0 := by
    obtain ⟨z, e6, e7⟩ := m3 ([(3, 1), (1, -301), (2, -1)], 0) (List.mem_of_getElem? (i := 0) rfl)
    obtain rfl : (1 * x3.toInt + (-301 * x1.toInt + (-1 * x2.toInt + 0))) = z := Option.some.inj (show some (1 * x3.toInt + (-301 * x1.toInt + (-1 * x2.toInt + 0))) = some z from e6)
    exact e7
  have l1 : 0 ≤ (-1 * x3.toInt + (301 * x1.toInt + (1 * x2.toInt + 0))) + 0 := by
    obtain ⟨z, e6, e7⟩ := m3 ([(3, -1), (1, 301), (2, 1)], 0) (List.mem_of_getElem? (i := 1) rfl)
    obtain rfl : (-1 * x3.toInt + (301 * x1.toInt + (1 * x2.toInt + 0))) = z := Option.some.inj (show some (-1 * x3.toInt + (301 * x1.toInt + (1 * x2.toInt + 0))) = some z from e6)
    exact e7
  have f0 : rB3 N K n p 347 [rR x0, rI x3] σ := by
    obtain ⟨w, e6, e7⟩ := m4 (5554, [0, 3]) (List.mem_of_getElem? (i := 0) rfl)
    obtain rfl : [rR x0, rI x3] = w := Option.some.inj (show some [rR x0, rI x3] = some w from e6)
    exact (rF_b (r := 5554) (by decide) rfl).mp e7
  have f0 := ro3_347.mp f0
  clear m1 m2 m3 m4
  have q0 : rB3 N K n p 345 [rR x0, rI x1, rI x2] σ := ro3_345.mpr (by
    obtain ⟨k0, g, r, e⟩ := f0
    rw [show x3.toInt = 301 * x1.toInt + x2.toInt by omega] at e k0
    exact ⟨k0, g, r, e⟩)
  exact ⟨p, fun _ => rfl, ⟨(fun q h => by cases h), fun q h => (by cases h), (fun f h => by cases h), (aAllc ⟨_, rfl, (rF_b (r := 5523) (by decide) rfl).mpr q0⟩ (fun f h => by cases h))⟩, [], List.mem_cons_self, fun f h => (by cases h)⟩
theorem rw_rpN {N : Int} {K : Nat → Nat} {n : Nat} {JX : (Nat → jcell) → Prop} : aGho (rH N K n) fa_T K n JX ag_rpN := by
  refine aGho_of ⟨rfl, rfl⟩ ?_
  intro p σ ρ hH hX hA hM0
  have hG := aAG_of hA.1 (fun i e v he hv => (hA.2 i e v he hv).1)
  clear hA
  obtain ⟨v0, v1, v2, rfl, g0, g1, g2⟩ := rA_3 hG
  clear hG
  obtain ⟨x0, rfl, b0, d0⟩ := rG_ref (by decide) g0
  obtain ⟨x1, rfl, b1, d1⟩ := aG_int g1
  dsimp only at b1 d1
  obtain ⟨x2, rfl, b2, d2⟩ := aG_int g2
  dsimp only at b2 d2
  obtain ⟨m1, m2, m3, m4⟩ := hM0
  obtain ⟨T, hT⟩ := rTe_ex hH b0 d0
  have f0 : rB3 N K n p 453 [rR x0, rI x1] σ := by
    obtain ⟨w, e6, e7⟩ := m4 (7250, [0, 1]) (List.mem_of_getElem? (i := 0) rfl)
    obtain rfl : [rR x0, rI x1] = w := Option.some.inj (show some [rR x0, rI x1] = some w from e6)
    exact (rF_b (r := 7250) (by decide) rfl).mp e7
  obtain ⟨C, y, hY, f0⟩ := ro3_453.mp f0
  clear m1 m2 m3 m4
  have q0 : rB3 N K n p 238 [rR x0, rI x1, rI x2] σ := ro3_238.mpr ⟨C, y, hY, by
    intro h
    omega⟩
  have q1 : rB3 N K n p 452 [rI x2] σ := ro3_452.mpr (by
    intro h
    omega)
  have q2 : rB3 N K n p 351 [rR x0, rI x1, rI x2] σ := ro3_351.mpr (by
    intro h
    omega)
  exact ⟨p, fun _ => rfl, ⟨(fun q h => by cases h), fun q h => (by cases h), (fun f h => by cases h), (aAllc ⟨_, rfl, (rF_b (r := 3811) (by decide) rfl).mpr q0⟩ (aAllc ⟨_, rfl, (rF_b (r := 7233) (by decide) rfl).mpr q1⟩ (aAllc ⟨_, rfl, (rF_b (r := 5619) (by decide) rfl).mpr q2⟩ (fun f h => by cases h))))⟩, [], List.mem_cons_self, fun f h => (by cases h)⟩
theorem rw_rpP {N : Int} {K : Nat → Nat} {n : Nat} {JX : (Nat → jcell) → Prop} : aGho (rH N K n) fa_T K n JX ag_rpP := by
  refine aGho_of ⟨rfl, rfl⟩ ?_
  intro p σ ρ hH hX hA hM0
  have hG := aAG_of hA.1 (fun i e v he hv => (hA.2 i e v he hv).1)
  clear hA
  obtain ⟨v0, v1, v2, rfl, g0, g1, g2⟩ := rA_3 hG
  clear hG
  obtain ⟨x0, rfl, b0, d0⟩ := rG_ref (by decide) g0
  obtain ⟨x1, rfl, b1, d1⟩ := aG_int g1
  dsimp only at b1 d1
  obtain ⟨x2, rfl, b2, d2⟩ := aG_int g2
  dsimp only at b2 d2
  obtain ⟨m1, m2, m3, m4⟩ := hM0
  obtain ⟨T, hT⟩ := rTe_ex hH b0 d0
  have f0 : rB3 N K n p 241 [rR x0, rI x1, rI x2] σ := by
    obtain ⟨w, e6, e7⟩ := m4 (3859, [0, 1, 2]) (List.mem_of_getElem? (i := 0) rfl)
    obtain rfl : [rR x0, rI x1, rI x2] = w := Option.some.inj (show some [rR x0, rI x1, rI x2] = some w from e6)
    exact (rF_b (r := 3859) (by decide) rfl).mp e7
  obtain ⟨C, y, hY, f0⟩ := ro3_241.mp f0
  have f1 : rB3 N K n p 451 [rI x2] σ := by
    obtain ⟨w, e6, e7⟩ := m4 (7217, [2]) (List.mem_of_getElem? (i := 1) rfl)
    obtain rfl : [rI x2] = w := Option.some.inj (show some [rI x2] = some w from e6)
    exact (rF_b (r := 7217) (by decide) rfl).mp e7
  have f1 := ro3_451.mp f1
  have f2 : rB3 N K n p 345 [rR x0, rI x1, rI x2] σ := by
    obtain ⟨w, e6, e7⟩ := m4 (5523, [0, 1, 2]) (List.mem_of_getElem? (i := 2) rfl)
    obtain rfl : [rR x0, rI x1, rI x2] = w := Option.some.inj (show some [rR x0, rI x1, rI x2] = some w from e6)
    exact (rF_b (r := 5523) (by decide) rfl).mp e7
  have f2 := ro3_345.mp f2
  clear m1 m2 m3 m4
  have q0 : rB3 N K n p 238 [rR x0, rI x1, rI x2] σ := ro3_238.mpr ⟨C, y, hY, by
    intro _
    exact f0.2⟩
  have q1 : rB3 N K n p 452 [rI x2] σ := ro3_452.mpr (by
    exact fun _ => f1)
  have q2 : rB3 N K n p 351 [rR x0, rI x1, rI x2] σ := ro3_351.mpr (by
    exact fun _ => f2)
  exact ⟨p, fun _ => rfl, ⟨(fun q h => by cases h), fun q h => (by cases h), (fun f h => by cases h), (aAllc ⟨_, rfl, (rF_b (r := 3811) (by decide) rfl).mpr q0⟩ (aAllc ⟨_, rfl, (rF_b (r := 7233) (by decide) rfl).mpr q1⟩ (aAllc ⟨_, rfl, (rF_b (r := 5619) (by decide) rfl).mpr q2⟩ (fun f h => by cases h))))⟩, [], List.mem_cons_self, fun f h => (by cases h)⟩
theorem rw_rpS {N : Int} {K : Nat → Nat} {n : Nat} {JX : (Nat → jcell) → Prop} : aGho (rH N K n) fa_T K n JX ag_rpS := by
  refine aGho_of ⟨rfl, rfl⟩ ?_
  intro p σ ρ hH hX hA hM0
  have hG := aAG_of hA.1 (fun i e v he hv => (hA.2 i e v he hv).1)
  clear hA
  obtain ⟨v0, v1, v2, rfl, g0, g1, g2⟩ := rA_3 hG
  clear hG
  obtain ⟨x0, rfl, b0, d0⟩ := rG_ref (by decide) g0
  obtain ⟨x1, rfl, b1, d1⟩ := aG_int g1
  dsimp only at b1 d1
  obtain ⟨x2, rfl, b2, d2⟩ := aG_int g2
  dsimp only at b2 d2
  obtain ⟨m1, m2, m3, m4⟩ := hM0
  obtain ⟨T, hT⟩ := rTe_ex hH b0 d0
  have f0 : rB3 N K n p 245 [rR x0, rI x1, rI x2] σ := by
    obtain ⟨w, e6, e7⟩ := m4 (3923, [0, 1, 2]) (List.mem_of_getElem? (i := 0) rfl)
    obtain rfl : [rR x0, rI x1, rI x2] = w := Option.some.inj (show some [rR x0, rI x1, rI x2] = some w from e6)
    exact (rF_b (r := 3923) (by decide) rfl).mp e7
  have f0 := ro3_245.mp f0
  clear m1 m2 m3 m4
  have q0 : rB3 N K n p 220 [rR x0] σ := ro3_220.mpr (by
    obtain ⟨pa, mo, q0, z, cc, v, p1, p2, p3, p4, p5, p6, p10, p11, p12⟩ := f0
    exact ⟨v, p10, p11, p12⟩)
  have q1 : rB3 N K n p 352 [rR x0, rI x1, rI x2] σ := ro3_352.mpr (by
    obtain ⟨pa, mo, q0, z, cc, v, p1, p2, p3, p4, p5, ⟨p6, p7, p8⟩, p10, p11, p12⟩ := f0
    exact ⟨pa, mo, q0, cc, ⟨p1, p2, z, p3⟩, p6, p8⟩)
  exact ⟨p, fun _ => rfl, ⟨(fun q h => by cases h), fun q h => (by cases h), (fun f h => by cases h), (aAllc ⟨_, rfl, (rF_b (r := 3521) (by decide) rfl).mpr q0⟩ (aAllc ⟨_, rfl, (rF_b (r := 5635) (by decide) rfl).mpr q1⟩ (fun f h => by cases h)))⟩, [], List.mem_cons_self, fun f h => (by cases h)⟩
theorem rw_rpG {N : Int} {K : Nat → Nat} {n : Nat} {JX : (Nat → jcell) → Prop} : aGho (rH N K n) fa_T K n JX ag_rpG := by
  refine aGho_of ⟨rfl, rfl⟩ ?_
  intro p σ ρ hH hX hA hM0
  have hG := aAG_of hA.1 (fun i e v he hv => (hA.2 i e v he hv).1)
  clear hA
  obtain ⟨v0, v1, v2, v3, rfl, g0, g1, g2, g3⟩ := rA_4 hG
  clear hG
  obtain ⟨x0, rfl, b0, d0⟩ := rG_ref (by decide) g0
  obtain ⟨x1, rfl, b1, d1⟩ := aG_int g1
  dsimp only at b1 d1
  obtain ⟨x2, rfl, b2, d2⟩ := aG_int g2
  dsimp only at b2 d2
  obtain ⟨x3, rfl, b3, d3⟩ := aG_int g3
  dsimp only at b3 d3
  obtain ⟨m1, m2, m3, m4⟩ := hM0
  obtain ⟨T, hT⟩ := rTe_ex hH b0 d0
  have f0 : rB3 N K n p 241 [rR x0, rI x1, rI x2] σ := by
    obtain ⟨w, e6, e7⟩ := m4 (3859, [0, 1, 2]) (List.mem_of_getElem? (i := 0) rfl)
    obtain rfl : [rR x0, rI x1, rI x2] = w := Option.some.inj (show some [rR x0, rI x1, rI x2] = some w from e6)
    exact (rF_b (r := 3859) (by decide) rfl).mp e7
  obtain ⟨C, y, hY, f0⟩ := ro3_241.mp f0
  have f1 : rB3 N K n p 352 [rR x0, rI x1, rI x2] σ := by
    obtain ⟨w, e6, e7⟩ := m4 (5635, [0, 1, 2]) (List.mem_of_getElem? (i := 1) rfl)
    obtain rfl : [rR x0, rI x1, rI x2] = w := Option.some.inj (show some [rR x0, rI x1, rI x2] = some w from e6)
    exact (rF_b (r := 5635) (by decide) rfl).mp e7
  have f1 := ro3_352.mp f1
  have f2 : rB3 N K n p 343 [rR x0, rI x3] σ := by
    obtain ⟨w, e6, e7⟩ := m4 (5490, [0, 3]) (List.mem_of_getElem? (i := 2) rfl)
    obtain rfl : [rR x0, rI x3] = w := Option.some.inj (show some [rR x0, rI x3] = some w from e6)
    exact (rF_b (r := 5490) (by decide) rfl).mp e7
  have f2 := ro3_343.mp f2
  clear m1 m2 m3 m4
  have q0 : rB3 N K n p 266 [rR x0, rI x1, rI x2, rI x3] σ := ro3_266.mpr ⟨C, y, hY, by
    obtain ⟨pa, mo, q0, cc, p1, p6, g, p8, p9⟩ := f1
    obtain ⟨g', c', i1, i2, j, j0, j1, j2⟩ := f2 b3
    obtain rfl := rRo_u p8 i1
    cases rOb_u p6 i2
    have h := p9 j j0 j1
    rw [j2] at h
    obtain ⟨rfl, rfl, rfl⟩ := rSt3_u p1 (rSt3_y hY.1)
    exact h⟩
  exact ⟨p, fun _ => rfl, ⟨(fun q h => by cases h), fun q h => (by cases h), (fun f h => by cases h), (aAllc ⟨_, rfl, (rF_b (r := 4260) (by decide) rfl).mpr q0⟩ (fun f h => by cases h))⟩, [], List.mem_cons_self, fun f h => (by cases h)⟩
theorem rw_rlLz {N : Int} {K : Nat → Nat} {n : Nat} {JX : (Nat → jcell) → Prop} : aGho (rH N K n) fa_T K n JX ag_rlLz := by
  refine aGho_of ⟨rfl, rfl⟩ ?_
  intro p σ ρ hH hX hA hM0
  have hG := aAG_of hA.1 (fun i e v he hv => (hA.2 i e v he hv).1)
  clear hA
  obtain ⟨v0, v1, v2, v3, rfl, g0, g1, g2, g3⟩ := rA_4 hG
  clear hG
  obtain ⟨x0, rfl, b0, d0⟩ := rG_ref (by decide) g0
  obtain ⟨x1, rfl, b1, d1⟩ := aG_int g1
  dsimp only at b1 d1
  obtain ⟨x2, rfl, b2, d2⟩ := aG_int g2
  dsimp only at b2 d2
  obtain ⟨x3, rfl, b3, d3⟩ := aG_int g3
  dsimp only at b3 d3
  obtain ⟨m1, m2, m3, m4⟩ := hM0
  obtain ⟨T, hT⟩ := rTe_ex hH b0 d0
  obtain ⟨a0, c0, fs0, w0, e1, s0, t0, e4⟩ := m1 (0, 37, 2) (List.mem_of_getElem? (i := 0) rfl)
  obtain rfl : x0 = a0 := Sum.inl.inj (Option.some.inj (Sum.inr.inj (Sum.inr.inj (Option.some.inj (show some (rR x0) = some _ from e1)))))
  obtain rfl : rI x2 = w0 := Option.some.inj (show some (rI x2) = some w0 from e4)
  clear e1 e4
  obtain ⟨a1, c1, fs1, w1, e1, s1, t1, e4⟩ := m1 (0, 1, 3) (List.mem_of_getElem? (i := 1) rfl)
  obtain rfl : x0 = a1 := Sum.inl.inj (Option.some.inj (Sum.inr.inj (Sum.inr.inj (Option.some.inj (show some (rR x0) = some _ from e1)))))
  obtain rfl : rI x3 = w1 := Option.some.inj (show some (rI x3) = some w1 from e4)
  clear e1 e4
  have l0 : 0 ≤ (1 * x2.toInt + (-1 * x3.toInt + 0)) + 0 := by
    obtain ⟨z, e6, e7⟩ := m3 ([(2, 1), (3, -1)], 0) (List.mem_of_getElem? (i := 0) rfl)
    obtain rfl : (1 * x2.toInt + (-1 * x3.toInt + 0)) = z := Option.some.inj (show some (1 * x2.toInt + (-1 * x3.toInt + 0)) = some z from e6)
    exact e7
  have f0 : rB3 N K n p 348 [rR x0, rI x1] σ := by
    obtain ⟨w, e6, e7⟩ := m4 (5570, [0, 1]) (List.mem_of_getElem? (i := 0) rfl)
    obtain rfl : [rR x0, rI x1] = w := Option.some.inj (show some [rR x0, rI x1] = some w from e6)
    exact (rF_b (r := 5570) (by decide) rfl).mp e7
  have f0 := ro3_348.mp f0
  clear m1 m2 m3 m4
  have r0 : 0 ≤ (1 * x1.toInt + 0) + 0 := by
    obtain ⟨g, t, e, ⟨h0, h1, h2⟩, h3⟩ := f0
    cases rOb_u h1 ⟨b0, d0, _, _, s0, t0⟩
    cases rOb_u h2 ⟨b0, d0, _, _, s1, t1⟩
    unfold rLk9 at h3
    rw [if_neg (by omega)] at h3
    omega
  have r1 : 0 ≤ (-1 * x1.toInt + 0) + 0 := by
    obtain ⟨g, t, e, ⟨h0, h1, h2⟩, h3⟩ := f0
    cases rOb_u h1 ⟨b0, d0, _, _, s0, t0⟩
    cases rOb_u h2 ⟨b0, d0, _, _, s1, t1⟩
    unfold rLk9 at h3
    rw [if_neg (by omega)] at h3
    omega
  exact ⟨p, fun _ => rfl, ⟨(fun q h => by cases h), fun q h => (by cases h), (aAllc ⟨_, rfl, r0⟩ (aAllc ⟨_, rfl, r1⟩ (fun f h => by cases h))), (fun f h => by cases h)⟩, [], List.mem_cons_self, fun f h => (by cases h)⟩
theorem rw_rpZ {N : Int} {K : Nat → Nat} {n : Nat} {JX : (Nat → jcell) → Prop} : aGho (rH N K n) fa_T K n JX ag_rpZ := by
  refine aGho_of ⟨rfl, rfl⟩ ?_
  intro p σ ρ hH hX hA hM0
  have hG := aAG_of hA.1 (fun i e v he hv => (hA.2 i e v he hv).1)
  clear hA
  obtain ⟨v0, v1, v2, rfl, g0, g1, g2⟩ := rA_3 hG
  clear hG
  obtain ⟨x0, rfl, b0, d0⟩ := rG_ref (by decide) g0
  obtain ⟨x1, rfl, b1, d1⟩ := aG_int g1
  dsimp only at b1 d1
  obtain ⟨x2, rfl, b2, d2⟩ := aG_int g2
  dsimp only at b2 d2
  obtain ⟨m1, m2, m3, m4⟩ := hM0
  obtain ⟨T, hT⟩ := rTe_ex hH b0 d0
  have f0 : rB3 N K n p 238 [rR x0, rI x1, rI x2] σ := by
    obtain ⟨w, e6, e7⟩ := m4 (3811, [0, 1, 2]) (List.mem_of_getElem? (i := 0) rfl)
    obtain rfl : [rR x0, rI x1, rI x2] = w := Option.some.inj (show some [rR x0, rI x1, rI x2] = some w from e6)
    exact (rF_b (r := 3811) (by decide) rfl).mp e7
  obtain ⟨C, y, hY, f0⟩ := ro3_238.mp f0
  have f1 : rB3 N K n p 452 [rI x2] σ := by
    obtain ⟨w, e6, e7⟩ := m4 (7233, [2]) (List.mem_of_getElem? (i := 1) rfl)
    obtain rfl : [rI x2] = w := Option.some.inj (show some [rI x2] = some w from e6)
    exact (rF_b (r := 7233) (by decide) rfl).mp e7
  have f1 := ro3_452.mp f1
  have f2 : rB3 N K n p 351 [rR x0, rI x1, rI x2] σ := by
    obtain ⟨w, e6, e7⟩ := m4 (5619, [0, 1, 2]) (List.mem_of_getElem? (i := 2) rfl)
    obtain rfl : [rR x0, rI x1, rI x2] = w := Option.some.inj (show some [rR x0, rI x1, rI x2] = some w from e6)
    exact (rF_b (r := 5619) (by decide) rfl).mp e7
  have f2 := ro3_351.mp f2
  clear m1 m2 m3 m4
  have q0 : rB3 N K n p 241 [rR x0, rI x1, rI x2] σ := ro3_241.mpr ⟨C, y, hY, by
    exact ⟨by omega, f0 (by omega)⟩⟩
  have q1 : rB3 N K n p 451 [rI x2] σ := ro3_451.mpr (by
    exact f1 (by omega))
  have q2 : rB3 N K n p 345 [rR x0, rI x1, rI x2] σ := ro3_345.mpr (by
    exact f2 (by omega))
  exact ⟨p, fun _ => rfl, ⟨(fun q h => by cases h), fun q h => (by cases h), (fun f h => by cases h), (aAllc ⟨_, rfl, (rF_b (r := 3859) (by decide) rfl).mpr q0⟩ (aAllc ⟨_, rfl, (rF_b (r := 7217) (by decide) rfl).mpr q1⟩ (aAllc ⟨_, rfl, (rF_b (r := 5523) (by decide) rfl).mpr q2⟩ (fun f h => by cases h))))⟩, [], List.mem_cons_self, fun f h => (by cases h)⟩
theorem rw_roLs {N : Int} {K : Nat → Nat} {n : Nat} {JX : (Nat → jcell) → Prop} : aGho (rH N K n) fa_T K n JX ag_roLs := by
  refine aGho_of ⟨rfl, rfl⟩ ?_
  intro p σ ρ hH hX hA hM0
  have hG := aAG_of hA.1 (fun i e v he hv => (hA.2 i e v he hv).1)
  clear hA
  obtain ⟨v0, v1, v2, v3, v4, v5, rfl, g0, g1, g2, g3, g4, g5⟩ := rA_6 hG
  clear hG
  obtain ⟨x0, rfl, b0, d0⟩ := rG_ref (by decide) g0
  obtain ⟨x1, rfl, b1, d1⟩ := aG_int g1
  dsimp only at b1 d1
  obtain ⟨x2, rfl, b2, d2⟩ := aG_int g2
  dsimp only at b2 d2
  obtain ⟨x3, rfl, b3, d3⟩ := aG_int g3
  dsimp only at b3 d3
  obtain ⟨x4, rfl, b4, d4⟩ := aG_int g4
  dsimp only at b4 d4
  obtain ⟨x5, rfl, b5, d5⟩ := aG_int g5
  dsimp only at b5 d5
  obtain ⟨m1, m2, m3, m4⟩ := hM0
  obtain ⟨T, hT⟩ := rTe_ex hH b0 d0
  have f0 : rB3 N K n p 241 [rR x0, rI x1, rI x2] σ := by
    obtain ⟨w, e6, e7⟩ := m4 (3859, [0, 1, 2]) (List.mem_of_getElem? (i := 0) rfl)
    obtain rfl : [rR x0, rI x1, rI x2] = w := Option.some.inj (show some [rR x0, rI x1, rI x2] = some w from e6)
    exact (rF_b (r := 3859) (by decide) rfl).mp e7
  obtain ⟨C, y, hY, f0⟩ := ro3_241.mp f0
  have f1 : rB3 N K n p 453 [rR x0, rI x1] σ := by
    obtain ⟨w, e6, e7⟩ := m4 (7250, [0, 1]) (List.mem_of_getElem? (i := 1) rfl)
    obtain rfl : [rR x0, rI x1] = w := Option.some.inj (show some [rR x0, rI x1] = some w from e6)
    exact (rF_b (r := 7250) (by decide) rfl).mp e7
  obtain ⟨C9, y9, h9, f1⟩ := ro3_453.mp f1
  obtain ⟨rfl, rfl⟩ := rTY_u hY h9
  clear h9
  have f2 : rB3 N K n p 241 [rR x0, rI x1, rI x3] σ := by
    obtain ⟨w, e6, e7⟩ := m4 (3859, [0, 1, 3]) (List.mem_of_getElem? (i := 2) rfl)
    obtain rfl : [rR x0, rI x1, rI x3] = w := Option.some.inj (show some [rR x0, rI x1, rI x3] = some w from e6)
    exact (rF_b (r := 3859) (by decide) rfl).mp e7
  obtain ⟨C9, y9, h9, f2⟩ := ro3_241.mp f2
  obtain ⟨rfl, rfl⟩ := rTY_u hY h9
  clear h9
  have f3 : rB3 N K n p 349 [rR x0, rI x4, rI x5] σ := by
    obtain ⟨w, e6, e7⟩ := m4 (5587, [0, 4, 5]) (List.mem_of_getElem? (i := 3) rfl)
    obtain rfl : [rR x0, rI x4, rI x5] = w := Option.some.inj (show some [rR x0, rI x4, rI x5] = some w from e6)
    exact (rF_b (r := 5587) (by decide) rfl).mp e7
  obtain ⟨C2, yy2, hY2, f3⟩ := ro3_349.mp f3
  clear m1 m2 m3 m4
  have q0 : rB3 N K n (rSh rS1 p [rI x2, rI x2]) 450 [rR x0, rI x1] σ := ro3_450.mpr ⟨C, y, hY, by
    obtain ⟨z, hz, -⟩ := f1
    exact ⟨_, rSh_w2 hz, f0.2⟩⟩
  have q1 : rB3 N K n (rSh rS1 p [rI x2, rI x2]) 241 [rR x0, rI x1, rI x3] σ := ro3_241.mpr ⟨C, y, hY, by
    exact f2⟩
  have q2 : rB3 N K n (rSh rS1 p [rI x2, rI x2]) 349 [rR x0, rI x4, rI x5] σ := ro3_349.mpr ⟨C2, yy2, hY2, by
    exact f3⟩
  exact ⟨p, fun _ => rfl, ⟨(fun q h => by cases h), fun q h => (by cases h), (fun f h => by cases h), (aAllc ⟨_, rfl, (rF_g (r := 7202) (by decide)).mpr q0⟩ (aAllc ⟨_, rfl, (rF_g (r := 3859) (by decide)).mpr q1⟩ (aAllc ⟨_, rfl, (rF_g (r := 5587) (by decide)).mpr q2⟩ (fun f h => by cases h))))⟩, [], List.mem_cons_self, fun f h => (by cases h)⟩
theorem rw_roLr {N : Int} {K : Nat → Nat} {n : Nat} {JX : (Nat → jcell) → Prop} : aGho (rH N K n) fa_T K n JX ag_roLr := by
  refine aGho_of ⟨rfl, rfl⟩ ?_
  intro p σ ρ hH hX hA hM0
  have hG := aAG_of hA.1 (fun i e v he hv => (hA.2 i e v he hv).1)
  clear hA
  obtain ⟨v0, v1, v2, v3, v4, rfl, g0, g1, g2, g3, g4⟩ := rA_5 hG
  clear hG
  obtain ⟨x0, rfl, b0, d0⟩ := rG_ref (by decide) g0
  obtain ⟨x1, rfl, b1, d1⟩ := aG_int g1
  dsimp only at b1 d1
  obtain ⟨x2, rfl, b2, d2⟩ := aG_int g2
  dsimp only at b2 d2
  obtain ⟨x3, rfl, b3, d3⟩ := aG_int g3
  dsimp only at b3 d3
  obtain ⟨x4, rfl, b4, d4⟩ := aG_int g4
  dsimp only at b4 d4
  obtain ⟨m1, m2, m3, m4⟩ := hM0
  obtain ⟨T, hT⟩ := rTe_ex hH b0 d0
  have f0 : rB3 N K n (rSh rS1 p [rI x2, rI x2]) 450 [rR x0, rI x1] σ := by
    obtain ⟨w, e6, e7⟩ := m4 (7202, [0, 1, 2, 2]) (List.mem_of_getElem? (i := 0) rfl)
    obtain rfl : [rR x0, rI x1, rI x2, rI x2] = w := Option.some.inj (show some [rR x0, rI x1, rI x2, rI x2] = some w from e6)
    exact (rF_g (r := 7202) (by decide)).mp e7
  obtain ⟨C, y, hY, f0⟩ := ro3_450.mp f0
  have f1 : rB3 N K n p 451 [rI x2] σ := by
    obtain ⟨w, e6, e7⟩ := m4 (7217, [2]) (List.mem_of_getElem? (i := 1) rfl)
    obtain rfl : [rI x2] = w := Option.some.inj (show some [rI x2] = some w from e6)
    exact (rF_b (r := 7217) (by decide) rfl).mp e7
  have f1 := ro3_451.mp f1
  have f2 : rB3 N K n (rSh rS1 p [rI x2, rI x2]) 349 [rR x0, rI x3, rI x4] σ := by
    obtain ⟨w, e6, e7⟩ := m4 (5587, [0, 3, 4, 2, 2]) (List.mem_of_getElem? (i := 2) rfl)
    obtain rfl : [rR x0, rI x3, rI x4, rI x2, rI x2] = w := Option.some.inj (show some [rR x0, rI x3, rI x4, rI x2, rI x2] = some w from e6)
    exact (rF_g (r := 5587) (by decide)).mp e7
  obtain ⟨C2, yy2, hY2, f2⟩ := ro3_349.mp f2
  clear m1 m2 m3 m4
  have q0 : rB3 N K n p 453 [rR x0, rI x1] σ := ro3_453.mpr ⟨C, y, hY, by
    obtain ⟨z, hz, hz2⟩ := f1
    obtain ⟨z9, h9, h8⟩ := f0
    have := rSh_w h9
    exact ⟨z, hz, by omega⟩⟩
  have q1 : rB3 N K n p 241 [rR x0, rI x1, rI x2] σ := ro3_241.mpr ⟨C, y, hY, by
    obtain ⟨z9, h9, h8⟩ := f0
    have := rSh_w h9
    exact ⟨b2, by omega⟩⟩
  have q2 : rB3 N K n p 349 [rR x0, rI x3, rI x4] σ := ro3_349.mpr ⟨C2, yy2, hY2, by
    exact f2⟩
  exact ⟨p, fun _ => rfl, ⟨(fun q h => by cases h), fun q h => (by cases h), (fun f h => by cases h), (aAllc ⟨_, rfl, (rF_b (r := 7250) (by decide) rfl).mpr q0⟩ (aAllc ⟨_, rfl, (rF_b (r := 3859) (by decide) rfl).mpr q1⟩ (aAllc ⟨_, rfl, (rF_b (r := 5587) (by decide) rfl).mpr q2⟩ (fun f h => by cases h))))⟩, [], List.mem_cons_self, fun f h => (by cases h)⟩
theorem rw_roLa {N : Int} {K : Nat → Nat} {n : Nat} {JX : (Nat → jcell) → Prop} : aGho (rH N K n) fa_T K n JX ag_roLa := by
  refine aGho_of ⟨rfl, rfl⟩ ?_
  intro p σ ρ hH hX hA hM0
  have hG := aAG_of hA.1 (fun i e v he hv => (hA.2 i e v he hv).1)
  clear hA
  obtain ⟨v0, v1, rfl, g0, g1⟩ := rA_2 hG
  clear hG
  obtain ⟨x0, rfl, b0, d0⟩ := rG_ref (by decide) g0
  obtain ⟨x1, rfl, b1, d1⟩ := aG_int g1
  dsimp only at b1 d1
  obtain ⟨m1, m2, m3, m4⟩ := hM0
  obtain ⟨T, hT⟩ := rTe_ex hH b0 d0
  have f0 : rB3 N K n p 450 [rR x0, rI x1] σ := by
    obtain ⟨w, e6, e7⟩ := m4 (7202, [0, 1]) (List.mem_of_getElem? (i := 0) rfl)
    obtain rfl : [rR x0, rI x1] = w := Option.some.inj (show some [rR x0, rI x1] = some w from e6)
    exact (rF_b (r := 7202) (by decide) rfl).mp e7
  obtain ⟨C, y, hY, f0⟩ := ro3_450.mp f0
  clear m1 m2 m3 m4
  have q0 : rB3 N K n p 453 [rR x0, rI x1] σ := ro3_453.mpr ⟨C, y, hY, by
    exact f0⟩
  exact ⟨p, fun _ => rfl, ⟨(fun q h => by cases h), fun q h => (by cases h), (fun f h => by cases h), (aAllc ⟨_, rfl, (rF_b (r := 7250) (by decide) rfl).mpr q0⟩ (fun f h => by cases h))⟩, [], List.mem_cons_self, fun f h => (by cases h)⟩
theorem rw_roLb {N : Int} {K : Nat → Nat} {n : Nat} {JX : (Nat → jcell) → Prop} : aGho (rH N K n) fa_T K n JX ag_roLb := by
  refine aGho_of ⟨rfl, rfl⟩ ?_
  intro p σ ρ hH hX hA hM0
  have hG := aAG_of hA.1 (fun i e v he hv => (hA.2 i e v he hv).1)
  clear hA
  obtain ⟨v0, v1, rfl, g0, g1⟩ := rA_2 hG
  clear hG
  obtain ⟨x0, rfl, b0, d0⟩ := rG_ref (by decide) g0
  obtain ⟨x1, rfl, b1, d1⟩ := aG_int g1
  dsimp only at b1 d1
  obtain ⟨m1, m2, m3, m4⟩ := hM0
  obtain ⟨T, hT⟩ := rTe_ex hH b0 d0
  have f0 : rB3 N K n p 453 [rR x0, rI x1] σ := by
    obtain ⟨w, e6, e7⟩ := m4 (7250, [0, 1]) (List.mem_of_getElem? (i := 0) rfl)
    obtain rfl : [rR x0, rI x1] = w := Option.some.inj (show some [rR x0, rI x1] = some w from e6)
    exact (rF_b (r := 7250) (by decide) rfl).mp e7
  obtain ⟨C, y, hY, f0⟩ := ro3_453.mp f0
  clear m1 m2 m3 m4
  have q0 : rB3 N K n p 450 [rR x0, rI x1] σ := ro3_450.mpr ⟨C, y, hY, by
    exact f0⟩
  exact ⟨p, fun _ => rfl, ⟨(fun q h => by cases h), fun q h => (by cases h), (fun f h => by cases h), (aAllc ⟨_, rfl, (rF_b (r := 7202) (by decide) rfl).mpr q0⟩ (fun f h => by cases h))⟩, [], List.mem_cons_self, fun f h => (by cases h)⟩
theorem rw_rlGE {N : Int} {K : Nat → Nat} {n : Nat} {JX : (Nat → jcell) → Prop} : aGho (rH N K n) fa_T K n JX ag_rlGE := by
  refine aGho_of ⟨rfl, rfl⟩ ?_
  intro p σ ρ hH hX hA hM0
  have hG := aAG_of hA.1 (fun i e v he hv => (hA.2 i e v he hv).1)
  clear hA
  obtain ⟨v0, v1, rfl, g0, g1⟩ := rA_2 hG
  clear hG
  obtain ⟨x0, rfl, b0, d0⟩ := aG_int g0
  dsimp only at b0 d0
  obtain ⟨x1, rfl, b1, d1⟩ := aG_int g1
  dsimp only at b1 d1
  obtain ⟨m1, m2, m3, m4⟩ := hM0
  have l0 : 0 ≤ (1 * x1.toInt + (-1 * x0.toInt + 0)) + 0 := by
    obtain ⟨z, e6, e7⟩ := m3 ([(1, 1), (0, -1)], 0) (List.mem_of_getElem? (i := 0) rfl)
    obtain rfl : (1 * x1.toInt + (-1 * x0.toInt + 0)) = z := Option.some.inj (show some (1 * x1.toInt + (-1 * x0.toInt + 0)) = some z from e6)
    exact e7
  clear m1 m2 m3 m4
  have r0 : 0 ≤ (1 * x1.toInt + (-1 * x0.toInt + 0)) + 0 := by
    omega
  exact ⟨p, fun _ => rfl, ⟨(fun q h => by cases h), fun q h => (by cases h), (aAllc ⟨_, rfl, r0⟩ (fun f h => by cases h)), (fun f h => by cases h)⟩, [], List.mem_cons_self, fun f h => (by cases h)⟩
end
