/-! the reference's Texts: where a man goes -/
def rSaf (q : rQ) (m : Int) : Prop := ∀ j, 0 ≤ j → j ≤ 63 → rV3 q m j = 8 * q.2.1 + 6 → ∃ s, 0 ≤ s ∧ s ≤ 63 ∧ rV3 q m s = 8 * q.2.1 + 6 ∧ ¬ rAk (rV3 q m) s (1 - q.2.1)
def rTh (q : rQ) (h t : Int) : Prop := (h = 1 ∧ t = 56 * q.2.1 + 6) ∨ (h = 0 ∧ t = 56 * q.2.1 + 2)
def rRgt (q : rQ) (t : Int) : Prop := ∃ h, rTh q h t ∧ rHas q.2.2.1 ((if h = 1 then 1 else 2) * (if q.2.1 = 0 then 1 else 4))
def rTmc (q : rQ) (t : Int) : Prop := ∃ h, rTh q h t ∧ rHas q.2.2.1 ((if h = 1 then 1 else 2) * (if q.2.1 = 0 then 1 else 4)) ∧ (∀ j, 56 * q.2.1 + (if h = 1 then 5 else 1) ≤ j → j < 56 * q.2.1 + (if h = 1 then 7 else 4) → q.1 j = 0) ∧ ¬ rAk q.1 (56 * q.2.1 + 4) (1 - q.2.1) ∧ ¬ rAk q.1 (56 * q.2.1 + (if h = 1 then 5 else 3)) (1 - q.2.1)
theorem rTmc_c {q : rQ} {t : Int} (hd : rGd q) (hk : q.1 (56 * q.2.1 + 4) = 8 * q.2.1 + 6) (h : rTmc q t) : (rCa q 1 ∧ t = 56 * q.2.1 + 4 + 2) ∨ (rCa q 0 ∧ t = 56 * q.2.1 + 4 - 2) := by
  obtain ⟨h, ht, h1, h2, h3, h4⟩ := h
  have hc : ¬ rChk q.1 q.2.1 := by
    rintro ⟨s, k1, k2⟩
    obtain ⟨s0, -, -, -, hu⟩ := hd.2.2.2.1 q.2.1 hd.1 hd.2.1
    have e : s = 56 * q.2.1 + 4 := (hu s k1.2.2.1).trans (hu _ hk).symm
    rw [e] at k2
    exact h3 k2
  rcases ht with ⟨rfl, ht⟩ | ⟨rfl, ht⟩
  · exact Or.inl ⟨⟨h1, h2, hc, h4⟩, by omega⟩
  · exact Or.inr ⟨⟨h1, h2, hc, h4⟩, by omega⟩
theorem rBitR : ∀ (R : Fin 16) (s : Fin 4), (Int32.ofNat R.val >>> (Int32.ofNat s.val &&& 31)) &&& 1 = 1 → ¬ (Int32.ofNat R.val &&& Int32.ofNat (2 ^ s.val)) = 0 := by decide +kernel
theorem rBitR' {x y v o w : Int32} {z : Nat} (e1 : v = x >>> (y &&& 31)) (e2 : w = v &&& o) (h0 : 0 ≤ x.toInt) (h1 : x.toInt ≤ 15) (hy : y.toInt = z) (hz : z < 4) (ho : o.toInt = 1) (hw : w.toInt = 1) {c : Int} (hc : c = ((2 ^ z : Nat) : Int)) : rHas x.toInt c := by
  have eo : o = 1 := Int32.toInt_inj.mp (by rw [ho]; rfl)
  have ew : w = 1 := Int32.toInt_inj.mp (by rw [hw]; rfl)
  have h := rBitR ⟨x.toInt.toNat, by omega⟩ ⟨z, hz⟩
  dsimp only at h
  have ey : y = Int32.ofNat z := by
    rw [rOf (x := y) (by omega), hy]
    rfl
  rw [← rOf h0, ← ey, ← e1, ← eo, ← e2, ew, eo] at h
  unfold rHas
  rw [Int32.ofInt_toInt, hc, Int32.ofInt_eq_ofNat]
  exact h rfl
def rRy (M : Int → Int) (s t f r u : Int) : Prop := (∀ v, rWf M f r u v → rWf M f r (rSp s f r) v) ∧ -1 ≤ f ∧ f ≤ 1 ∧ -1 ≤ r ∧ r ≤ 1 ∧ 0 ≤ u ∧ u ≤ 63 ∧ ∃ j, 0 ≤ j ∧ t % 8 = u % 8 + j * f ∧ t / 8 = u / 8 + j * r
def rSl (k f r : Int) : Prop := (k = 4 ∧ f * f + r * r = 1) ∨ (k = 3 ∧ f * f + r * r = 2) ∨ (k = 5 ∧ 1 ≤ f * f + r * r ∧ f * f + r * r ≤ 2)
theorem rSqb {f r : Int} (h : f * f + r * r ≤ 8) : -2 ≤ f ∧ f ≤ 2 ∧ -2 ≤ r ∧ r ≤ 2 := by
  have key : ∀ z w : Int, z * z + w * w ≤ 8 → -2 ≤ z ∧ z ≤ 2 := fun z w hz => by
    have hw := rSqn (x := w)
    by_cases c : 3 ≤ z
    · have := Int.mul_le_mul_of_nonneg_right c (show 0 ≤ z by omega)
      omega
    · by_cases c2 : z ≤ -3
      · have h2 : -z * -z = z * z := Int.neg_mul_neg z z
        have := Int.mul_le_mul_of_nonneg_right (show 3 ≤ -z by omega) (show 0 ≤ -z by omega)
        omega
      · omega
  have h1 := key f r h
  have h2 := key r f (by omega)
  omega
theorem rSp_of {s t f r : Int} (h0 : 0 ≤ s) (h1 : s ≤ 63) (h2 : 0 ≤ t) (h3 : t ≤ 63) (e1 : f = t % 8 - s % 8) (e2 : r = t / 8 - s / 8) : t = rSp s f r := by
  unfold rSp
  rw [if_pos (by omega)]
  omega
def rTJ (q : rQ) (f t b n : Int) : Prop := (0 ≤ q.2.1 ∧ q.2.1 ≤ 1) ∧ rGO q f t ∧ ((rLs q f t ∧ n ≤ 31 * f + rSm (q.1 f % 8) f t.toNat + (b - 2)) ∨ (¬ rLs q f t ∧ n ≤ 31 * f + rSm (q.1 f % 8) f t.toNat + b))
def rTL (K : Nat → Nat) (n : Nat) (σ : Nat → jcell) (a : Nat) (c : Int) (q : rQ) : Prop := ∃ g, rRo K n σ a 62 32 85 2048 g ∧ ∀ j, 0 ≤ j → j < c → rLm q (g j.toNat).toInt ∧ rGd (rMk q (g j.toNat).toInt)
/-- a move that goes and is safe is legal, whatever the pawn becomes -/
theorem rLg_of {q : rQ} {f t b m : Int} (hd : rGd q) (h0 : 0 ≤ f) (h1 : f ≤ 63) (h2 : 0 ≤ t) (h3 : t ≤ 63) (ho : rOwn q f) (hn : ¬ rOwn q t) (hg : rGO q f t) (hb : (rLs q f t ∧ 2 ≤ b ∧ b ≤ 5) ∨ (¬ rLs q f t ∧ b = 0)) (hs : rSaf q (f + 64 * t)) (hm : m = f + 64 * t + 4096 * b) : rLm q m ∧ rGd (rMk q m) := by
  obtain ⟨e1, e2, e3⟩ := rMv (m := m) h0 h1 h2 h3 hm
  obtain ⟨z1, z2, z3⟩ := rFr_m h0 h1 h2 h3
  have d0 := hd.1
  have d1 := hd.2.1
  have hl : rLm q m := by
    refine ⟨by omega, by omega, by rw [e1]; exact ho, by rw [e2]; exact hn, by rw [e1, e2]; exact hg, ?_⟩
    rw [e1, e2, e3]
    unfold rLs at hb
    omega
  refine ⟨hl, (rMk_gd hd hl).mpr (fun s hs2 ha => ?_)⟩
  have hV : rM4 q m = rV3 q m := (rV3_eq hd hl).symm
  rw [hV] at hs2 ha
  obtain ⟨o1, o2⟩ := ho
  -- the men with the pawn left as it is
  have hv0 : rV0 q (f + 64 * t) = rV0 q m := by
    funext i
    have : rVd q (f + 64 * t) ↔ rVd q m := by unfold rVd; rw [z1, z2, e1, e2]
    unfold rV0
    by_cases c : rVd q m
    · rw [if_pos c, if_pos (this.mpr c), z1, z2, e1, e2]
    · rw [if_neg c, if_neg (fun h => c (this.mp h))]
  have hv1 : rV1 q (f + 64 * t) = rV1 q m := by
    have hc : rVc q (f + 64 * t) ↔ rVc q m := by unfold rVc; rw [z1, z2, e1, e2]
    have hcv : rCv (f + 64 * t) = rCv m := by unfold rCv; rw [z1, z2, e1, e2]
    by_cases c : rVc q m
    · rw [rV1_y c, rV1_y (hc.mpr c)]
      unfold rV1d
      rw [hv0, hcv, z1, z2, e1, e2]
    · rw [rV1_n c, rV1_n (fun h => c (hc.mp h)), hv0]
  have hat : ∀ i, ¬ i = t → rV3 q (f + 64 * t) i = rV3 q m i := fun i hi => by
    unfold rV3 rV2
    rw [hv1, z1, z2, e1, e2, rUp_n hi, rUp_n hi]
  have ht0 : rV3 q (f + 64 * t) t = q.1 f := by
    unfold rV3
    rw [z2, rUp_s, z1, z3, if_neg (by omega)]
  have htm : rV3 q m t = if 0 < b then b + 8 * q.2.1 else q.1 f := by
    unfold rV3
    rw [e2, rUp_s, e3, e1]
  have hval : (1 ≤ q.1 f ∧ q.1 f ≤ 6) ∨ (9 ≤ q.1 f ∧ q.1 f ≤ 14) := by
    rcases hd.2.2.1 f with h | ⟨-, -, h⟩
    · exact absurd h o1
    · exact h
  have hlk : rLk (rV3 q m) (rV3 q (f + 64 * t)) (1 - q.2.1) := fun i => by
    by_cases ci : i = t
    · rw [ci, ht0, htm]
      split
      next c => exact Or.inr ⟨by omega, o1, by omega, by omega⟩
      next => exact Or.inl rfl
    · exact Or.inl (hat i ci).symm
  have hr : 0 ≤ s ∧ s ≤ 63 := by
    rcases rVal_4 hd hl s with h | ⟨h4, h5, -⟩
    · rw [hV, hs2] at h; omega
    · exact ⟨h4, h5⟩
  have hss : rV3 q (f + 64 * t) s = 8 * q.2.1 + 6 := by
    by_cases ci : s = t
    · rw [ci] at hs2 ⊢
      rw [htm] at hs2
      rw [ht0]
      split at hs2
      next c =>
        unfold rLs at hb
        omega
      next => exact hs2
    · rw [hat s ci]; exact hs2
  obtain ⟨s', k1, k2, k3, k4⟩ := hs s hr.1 hr.2 hss
  have hs' : rV3 q m s' = 8 * q.2.1 + 6 := by
    by_cases ci : s' = t
    · rw [ci] at k3 ⊢
      rw [ht0] at k3
      rw [htm]
      split
      next c =>
        unfold rLs at hb
        omega
      next => exact k3
    · rw [← hat s' ci]; exact k3
  obtain ⟨s0, -, -, -, hu⟩ := rKs_4 hd hl q.2.1 d0 d1
  rw [hV] at hu
  obtain rfl : s = s' := (hu s hs2).trans (hu s' hs').symm
  exact k4 (rLk_a hlk ha)
