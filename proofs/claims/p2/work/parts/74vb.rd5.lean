/-! more of bits and rows -/
theorem rAnd560 : ∀ (m : Fin 64), (Int32.ofNat m.val &&& 56).toInt = 8 * ((m.val : Int) / 8) := by decide +kernel
theorem rAnd56 {x y c : Int32} (e : c = x &&& y) (hy : y.toInt = 56) (h0 : 0 ≤ x.toInt) (h1 : x.toInt ≤ 63) : c.toInt = 8 * (x.toInt / 8) := by
  have ey : y = 56 := Int32.toInt_inj.mp (by rw [hy]; rfl)
  have h := rAnd560 ⟨x.toInt.toNat, by omega⟩
  dsimp only at h
  rw [← rOf h0] at h
  rw [e, ey, h]
  omega
theorem rShn : ∀ (t : Fin 64), (((Int32.ofNat t.val).toInt64 &&& 63).toBitVec.smod 64).toNat = t.val := by decide +kernel
theorem rOfi {t : Int} (h0 : 0 ≤ t) (h1 : t ≤ 63) : Int32.ofInt t = Int32.ofNat t.toNat := by
  have h : t = ((t.toNat : Nat) : Int) := by omega
  rw [h]
  exact Int32.ofInt_eq_ofNat
theorem rShb {L L2 : Int64} {t : Int} (e : L2 = L >>> ((Int32.ofInt t).toInt64 &&& 63)) (h0 : 0 ≤ t) (h1 : t ≤ 63) {i : Int} (h2 : 0 ≤ i) (h3 : t + i ≤ 63) : rBt L2 i ↔ rBt L (t + i) := by
  have hs := rShn ⟨t.toNat, by omega⟩
  dsimp only at hs
  unfold rBt
  rw [e, rOfi h0 h1, Int64.toBitVec_shiftRight, BitVec.sshiftRight_eq', hs, BitVec.getLsbD_sshiftRight, if_pos (by omega), show t.toNat + i.toNat = (t + i).toNat by omega, show (!decide (64 ≤ i.toNat)) = true by rw [decide_eq_false (by omega)]; rfl, Bool.true_and]
theorem rAnd1 {A B C : Int64} (e : C = A &&& B) (hB : B.toInt = 1) : C.toInt = 1 ↔ rBt A 0 := by
  have eB : B = 1 := Int64.toInt_inj.mp (by rw [hB]; rfl)
  subst eB
  have h1 : ((1 : Int64).toBitVec.getLsbD 0) = true := rfl
  unfold rBt
  constructor
  · intro h
    have hC : C = 1 := Int64.toInt_inj.mp (by rw [h]; rfl)
    have h2 : C.toBitVec.getLsbD 0 = true := by rw [hC]; rfl
    rw [e, Int64.toBitVec_and, BitVec.getLsbD_and, Bool.and_eq_true] at h2
    exact h2.1
  · intro h
    have hC : C = 1 := by
      apply Int64.toBitVec_inj.mp
      apply BitVec.eq_of_getLsbD_eq
      intro i hi
      rw [e, Int64.toBitVec_and, BitVec.getLsbD_and]
      cases i with
      | zero => rw [show A.toBitVec.getLsbD 0 = true from h]; rfl
      | succ i =>
        have h3 : (1 : Int64).toBitVec.getLsbD (i + 1) = false := by
          rw [show (1 : Int64).toBitVec = 1#64 from rfl, BitVec.getLsbD_one]
          simp
        rw [h3, Bool.and_false]
    rw [hC]; rfl
theorem rRo_ex {ko f kr len : Nat} {K : Nat → Nat} {n : Nat} {σ : Nat → jcell} (hH : aH fa_T K n σ) {a c : Nat} {ts : List aT} {iv : Int × Int} {el : List (Nat × Nat × Int × Int × Int)} (t1 : fa_T[ko]? = some (.inr (c, ts))) (t2 : ts[f]? = some (.inr (some (.inl (false, kr))))) (t3 : fa_T[kr]? = some (.inl (.int, len, iv, el))) (h9 : ¬ kr = 99999) (ha : a < n) (hk : K a = ko) : ∃ g, rRo K n σ a ko f kr len g := by
  have h1 := hH a ha _ (by rw [hk]; exact t1)
  match e : σ a, h1 with
  | .inr (c', fs), h1 =>
    obtain ⟨-, hl, h2⟩ := h1
    have hf : f < fs.length := by rw [hl]; exact (List.getElem?_eq_some_iff.mp t2).1
    obtain ⟨r, e2, h3, h4⟩ := rG_ref h9 (h2 f _ _ t2 (List.getElem?_eq_getElem hf))
    have h5 := hH r h3 _ (by rw [h4]; exact t3)
    obtain ⟨g, e3, -⟩ := aCe_arr h5 (show ¬ FieldType.int = FieldType.long by decide)
    exact ⟨g, r, ⟨ha, hk, c', fs, e, by rw [List.getElem?_eq_getElem hf, e2]⟩, h3, h4, e3⟩
  | .inl x, h1 => exact h1.elim
theorem rFr_m {f t : Int} (h0 : 0 ≤ f) (h1 : f ≤ 63) (h2 : 0 ≤ t) (h3 : t ≤ 63) : rFr (f + 64 * t) = f ∧ rTo (f + 64 * t) = t ∧ rBc (f + 64 * t) = 0 := by
  unfold rFr rTo rBc
  omega
theorem rMv {m f t b : Int} (h0 : 0 ≤ f) (h1 : f ≤ 63) (h2 : 0 ≤ t) (h3 : t ≤ 63) (e : m = f + 64 * t + 4096 * b) : rFr m = f ∧ rTo m = t ∧ rBc m = b := by
  unfold rFr rTo rBc
  omega
theorem rNo_x {q : rQ} {f t : Int} (h : rNo q f t 0) (hx : ∀ m, rLm q m → rFr m = f → rTo m = t → False) : rNo q f (t + 1) 0 := by
  intro m h1 h2 h3
  have h4 : 0 ≤ rBc m := by
    have := h1.1
    unfold rBc
    omega
  rcases h3 with h3 | ⟨h3, h5 | ⟨h5, h6⟩⟩
  · exact h m h1 h2 (Or.inl h3)
  · by_cases c : rTo m = t
    · exact hx m h1 h3 c
    · exact h m h1 h2 (Or.inr ⟨h3, Or.inl (by omega)⟩)
  · omega
theorem rNo_e {q : rQ} {f t : Int} (h : rNo q f t 0) (hx : ∀ m, rLm q m → rFr m = f → t ≤ rTo m → False) : rNo q (f + 1) 0 0 := by
  intro m h1 h2 h3
  have h4 : 0 ≤ rBc m := by
    have := h1.1
    unfold rBc
    omega
  have h5 := rTo_r (m := m)
  rcases h3 with h3 | ⟨h3, h6 | ⟨h6, h7⟩⟩
  · by_cases c : rFr m = f
    · by_cases c2 : t ≤ rTo m
      · exact hx m h1 c c2
      · exact h m h1 h2 (Or.inr ⟨c, Or.inl (by omega)⟩)
    · exact h m h1 h2 (Or.inl (by omega))
  · omega
  · omega
theorem rSm_s {k s t : Int} (h : 0 ≤ t) : rSm k s (t + 1).toNat = rSm k s t.toNat + rWt k s t := by
  rw [show (t + 1).toNat = t.toNat + 1 by omega]
  show rSm k s t.toNat + rWt k s ((t.toNat : Nat) : Int) = _
  rw [show ((t.toNat : Nat) : Int) = t by omega]
/-- goals stay within the squares counted -/
theorem rWf_ln {M : Int → Int} {f r u : Int} : ∀ {k : Nat} {s t : Int}, rWn M f r k t u → t = rSp s f r → 0 ≤ s → s ≤ 63 → ∃ j : Int, 1 ≤ j ∧ u % 8 = s % 8 + j * f ∧ u / 8 = s / 8 + j * r ∧ 0 ≤ u ∧ u ≤ 63 := by
  intro k
  induction k with
  | zero => intro s t h; exact h.elim
  | succ k ih =>
    intro s t h e h0 h1
    obtain ⟨h2, h3⟩ := h
    have h4 := rSp_b h0 h1 e h2
    have h5 : t % 8 = s % 8 + f ∧ t / 8 = s / 8 + r := by
      unfold rSp at e
      split at e <;> omega
    rcases h3 with rfl | ⟨-, h6⟩
    · exact ⟨1, by omega, by omega, by omega, h2, h4.2⟩
    · obtain ⟨j, j1, j3, j4, j5, j6⟩ := ih h6 rfl h2 h4.2
      have ef : (j + 1) * f = j * f + f := by rw [Int.add_mul, Int.one_mul]
      have er : (j + 1) * r = j * r + r := by rw [Int.add_mul, Int.one_mul]
      exact ⟨j + 1, by omega, by omega, by omega, j5, j6⟩
theorem rSup_s {k s t f r : Int} (h : k = 3 ∨ k = 4 ∨ k = 5) (hf : -2 ≤ f ∧ f ≤ 2) (hr : -2 ≤ r ∧ r ≤ 2) (hk : (k = 4 ∧ f * f + r * r = 1) ∨ (k = 3 ∧ f * f + r * r = 2) ∨ (k = 5 ∧ 1 ≤ f * f + r * r ∧ f * f + r * r ≤ 2)) {j : Int} (j1 : 1 ≤ j) (e1 : t % 8 = s % 8 + j * f) (e2 : t / 8 = s / 8 + j * r) : rSup k s t = true := by
  have h2 : f * f + r * r ≤ 2 := by omega
  obtain ⟨f1, f2, r1, r2⟩ := rSq2 hf.1 hf.2 hr.1 hr.2 h2
  have hf : f = -1 ∨ f = 0 ∨ f = 1 := by omega
  have hr : r = -1 ∨ r = 0 ∨ r = 1 := by omega
  unfold rSup
  rw [if_neg (by omega), if_neg (by omega), if_neg (by omega)]
  simp only [Bool.or_eq_true, Bool.and_eq_true, decide_eq_true_iff]
  rcases hf with rfl | rfl | rfl <;> rcases hr with rfl | rfl | rfl <;> omega
theorem rGO_sup {q : rQ} {s u : Int} (hg : rGO q s u) (h0 : 0 ≤ s) (h1 : s ≤ 63) (hd : 0 ≤ q.2.1 ∧ q.2.1 ≤ 1) : rSup (q.1 s % 8) s u = true := by
  rcases hg with ⟨hk, hg⟩ | ⟨hk, hg⟩
  · unfold rSup
    rw [if_pos hk]
    simp only [Bool.or_eq_true, Bool.and_eq_true, decide_eq_true_iff]
    rcases hg with ⟨g1, g2, g3⟩ | ⟨f, g1, g2, g3, -⟩
    · have e : rSp s 0 (rUpw q) = s + 8 * rUpw q := by
        unfold rSp at g1 ⊢
        split at g1
        next c => rw [if_pos c]; omega
        next => omega
      rw [e] at g1 g3
      unfold rUpw at g1 g3
      rcases g3 with g3 | ⟨g3, g4, -⟩
      · unfold rSp at e
        unfold rUpw at e
        split at e <;> omega
      · unfold rSp at g4
        split at g4
        · omega
        · omega
    · unfold rSp rUpw at g3
      split at g3 <;> omega
  · rcases hg with ⟨f, r, f1, f2, r1, r2, hg⟩ | ⟨hk6, hs, hc⟩
    · rcases hg with ⟨hg, hu, e⟩ | ⟨hg, k, hw⟩
      · have e1 : u % 8 - s % 8 = f ∧ u / 8 - s / 8 = r := by
          unfold rSp at e
          split at e <;> omega
        unfold rSup
        rw [if_neg hk, e1.1, e1.2]
        rcases hg with ⟨g1, g2⟩ | ⟨g1, g2, g3⟩
        · rw [if_pos g1]
          exact decide_eq_true g2
        · rw [if_neg (by omega), if_pos g1]
          simp only [Bool.or_eq_true, Bool.and_eq_true, decide_eq_true_iff]
          exact Or.inl (Or.inl ⟨g2, g3⟩)
      · obtain ⟨j, j1, j2, j3, -⟩ := rWf_ln hw rfl h0 h1
        exact rSup_s (by omega) ⟨f1, f2⟩ ⟨r1, r2⟩ hg j1 j2 j3
    · unfold rSup
      rw [if_neg hk, if_neg (by omega), if_pos hk6]
      simp only [Bool.or_eq_true, Bool.and_eq_true, decide_eq_true_iff]
      rcases hc with ⟨-, hc⟩ | ⟨-, hc⟩
      · exact Or.inl (Or.inr hc)
      · exact Or.inr hc
theorem rSqn {x : Int} : 0 ≤ x * x := by
  rcases Int.le_total 0 x with h | h
  · exact Int.mul_nonneg h h
  · rw [← Int.neg_mul_neg]
    exact Int.mul_nonneg (by omega) (by omega)
