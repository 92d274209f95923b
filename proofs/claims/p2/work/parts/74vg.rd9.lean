/-! the reference's Texts: its own make -/
def rVd (q : rQ) (m : Int) : Prop := q.1 (rFr m) % 8 = 1 ∧ q.1 (rTo m) = 0 ∧ ¬ rFr m % 8 = rTo m % 8
def rVd_d (q : rQ) (m : Int) : Decidable (rVd q m) := by unfold rVd; exact inferInstance
def rV0 (q : rQ) (m : Int) : Int → Int := fun i => @ite _ (rVd q m) (rVd_d q m) (rUp q.1 (8 * (rFr m / 8) + rTo m % 8) 0 i) (q.1 i)
def rVc (q : rQ) (m : Int) : Prop := q.1 (rFr m) % 8 = 6 ∧ rFr m % 8 = 4 ∧ (rTo m % 8 = 6 ∨ rTo m % 8 = 2)
def rVc_d (q : rQ) (m : Int) : Decidable (rVc q m) := by unfold rVc; exact inferInstance
def rCv (m : Int) : Int := if rTo m % 8 = 6 then rFr m + 3 else rFr m - 4
def rV1d (q : rQ) (m : Int) : Int → Int := rUp (rV0 q m) (rOv (rFr m) (rTo m)) (rV0 q m (rCv m))
def rV1 (q : rQ) (m : Int) : Int → Int := fun i => @ite _ (rVc q m) (rVc_d q m) (rUp (rV1d q m) (rCv m) 0 i) (rV0 q m i)
def rV2 (q : rQ) (m : Int) : Int → Int := rUp (rV1 q m) (rFr m) 0
def rV3 (q : rQ) (m : Int) : Int → Int := rUp (rV2 q m) (rTo m) (if 0 < rBc m then rBc m + 8 * q.2.1 else q.1 (rFr m))
def rVt (q : rQ) (m : Int) : Prop := rTwo q m ∧ (rNbr (rV3 q m) (rTo m) (-1) (1 + 8 * (1 - q.2.1)) ∨ rNbr (rV3 q m) (rTo m) 1 (1 + 8 * (1 - q.2.1)))
def rVt_d (q : rQ) (m : Int) : Decidable (rVt q m) := by unfold rVt rTwo rNbr; exact inferInstance
def rVp (q : rQ) (m : Int) : Int := @ite _ (rVt q m) (rVt_d q m) ((rFr m + rTo m) / 2) (-1)
def rVk (q : rQ) (m : Int) : rQ := (rV3 q m, 1 - q.2.1, rAn (rAn q.2.2.1 (rLo (rFr m))) (rLo (rTo m)), rVp q m)
theorem rV0_y {q : rQ} {m : Int} (h : rVd q m) : rV0 q m = rUp q.1 (8 * (rFr m / 8) + rTo m % 8) 0 := by
  funext i
  unfold rV0
  rw [if_pos h]
theorem rV0_n {q : rQ} {m : Int} (h : ¬ rVd q m) : rV0 q m = q.1 := by
  funext i
  unfold rV0
  rw [if_neg h]
theorem rV1_y {q : rQ} {m : Int} (h : rVc q m) : rV1 q m = rUp (rV1d q m) (rCv m) 0 := by
  funext i
  unfold rV1
  rw [if_pos h]
theorem rV1_n {q : rQ} {m : Int} (h : ¬ rVc q m) : rV1 q m = rV0 q m := by
  funext i
  unfold rV1
  rw [if_neg h]
/-- where a pawn takes beside, it takes a pawn that passed -/
theorem rVd_i {q : rQ} {m : Int} (hd : rGd q) (hl : rLm q m) : rVd q m ↔ ¬ rWh q m = rTo m := by
  constructor
  · rintro ⟨h1, h2, h3⟩ e
    obtain ⟨-, -, ⟨o1, o2⟩, -, hg, -⟩ := hl
    have hf := rFr_r (m := m)
    have ht := rTo_r (m := m)
    rcases hg with ⟨-, hg⟩ | ⟨hg, -⟩
    · rcases hg with ⟨g1, g2, g3⟩ | ⟨f, g1, g2, g3, g4⟩
      · have e9 : rSp (rFr m) 0 (rUpw q) = rFr m + 8 * rUpw q := by
          unfold rSp at g1 ⊢
          split at g1
          next c => rw [if_pos c]; omega
          next => omega
        rw [e9] at g3
        rcases g3 with g3 | ⟨-, g3, -⟩
        · omega
        · unfold rSp at g3
          split at g3 <;> omega
      · rcases g4 with ⟨g4, -⟩ | g4
        · exact g4 h2
        · unfold rWh at e
          rw [if_pos ⟨h1, g4⟩] at e
          unfold rSp rUpw at g3
          have d0 := hd.1
          have d1 := hd.2.1
          split at g3 <;> omega
    · exact hg h1
  · intro h
    obtain ⟨k1, k2, k3, -, k5⟩ := rLm_ep hd hl h
    have d0 := hd.1
    have d1 := hd.2.1
    refine ⟨by omega, k2, fun e => ?_⟩
    unfold rWh at h k5
    split at h
    next c =>
      rw [if_pos c] at k5
      apply k5
      omega
    next => exact h rfl
theorem rUp_uu {M : Int → Int} {s t v w : Int} : rUp (rUp (rUp M t v) s 0) t w = rUp (rUp M s 0) t w := by
  funext i
  by_cases c1 : i = t
  · rw [c1, rUp_s, rUp_s]
  · rw [rUp_n c1, rUp_n c1]
    by_cases c2 : i = s
    · rw [c2, rUp_s, rUp_s]
    · rw [rUp_n c2, rUp_n c2, rUp_n c1]
/-- a king's move that Texts takes for castling is castling -/
theorem rVc_i {q : rQ} {m : Int} (hd : rGd q) (hl : rLm q m) : rVc q m ↔ rIsC q m := by
  have hf := rFr_r (m := m)
  have ht := rTo_r (m := m)
  have d0 := hd.1
  have d1 := hd.2.1
  constructor
  · rintro ⟨h1, h2, h3⟩
    obtain ⟨-, -, -, -, hg, -⟩ := hl
    rcases hg with ⟨hg, -⟩ | ⟨-, ⟨f, r, f1, f2, r1, r2, hg⟩ | ⟨-, hs, hc⟩⟩
    · omega
    · exfalso
      rcases hg with ⟨hg, -, e⟩ | ⟨hg, -⟩
      · have h4 : f * f + r * r ≤ 2 := by
          rcases hg with ⟨h, -⟩ | ⟨-, -, h⟩
          · omega
          · exact h
        have h5 := rSq2 f1 f2 r1 r2 h4
        unfold rSp at e
        split at e <;> omega
      · omega
    · refine ⟨h1, ?_⟩
      rcases hc with ⟨-, hc⟩ | ⟨-, hc⟩ <;> omega
  · intro hc
    obtain ⟨k1, k2, k3, k4, k5⟩ := rLm_ca ⟨d0, d1⟩ hl hc
    exact ⟨hc.1, by omega, by omega⟩
theorem rV3_eq {q : rQ} {m : Int} (hd : rGd q) (hl : rLm q m) : rV3 q m = rM4 q m := by
  have d0 := hd.1
  have d1 := hd.2.1
  by_cases hc : rIsC q m
  · obtain ⟨k1, k2, k3, k4, k5⟩ := rLm_ca ⟨d0, d1⟩ hl hc
    have hv := (rVc_i hd hl).mpr hc
    have hn : ¬ rVd q m := fun h => by have h1 := h.1; have h2 := hc.1; omega
    have hw : rWh q m = rTo m := by
      unfold rWh
      rw [if_neg (fun h => by have := hc.1; omega)]
    have ec : rCv m = rCo (rFr m) (rTo m) := by
      unfold rCv rCo
      rcases k5 with k5 | k5
      · rw [if_pos (by omega), if_pos (by omega)]
      · rw [if_neg (by omega), if_neg (by omega)]
    have n1 : ¬ rCo (rFr m) (rTo m) = rTo m := by unfold rCo; split <;> omega
    have n2 : ¬ rCo (rFr m) (rTo m) = rFr m := by unfold rCo; split <;> omega
    have n3 : ¬ rCo (rFr m) (rTo m) = rOv (rFr m) (rTo m) := by unfold rCo rOv; split <;> omega
    have n4 : ¬ rOv (rFr m) (rTo m) = rTo m := by unfold rOv; omega
    have n5 : ¬ rOv (rFr m) (rTo m) = rFr m := by unfold rOv; omega
    have n6 : ¬ rFr m = rTo m := by omega
    rw [rM4_c hc]
    unfold rV3 rV2
    rw [rV1_y hv]
    unfold rV1d
    rw [rV0_n hn, ec]
    have e3 : ∀ i, ¬ i = rTo m → ¬ i = rFr m → rM3 q m i = q.1 i := fun i h1 h2 => by
      unfold rM3 rM2 rM1
      rw [rUp_n h1, rUp_n h2, hw, rUp_n h1]
    funext i
    unfold rM4c
    by_cases c1 : i = rTo m
    · rw [c1, rUp_s, rUp_n (fun h => n1 h.symm), rUp_n (fun h => n4 h.symm)]
      unfold rM3
      rw [rUp_s]
    · rw [rUp_n c1]
      by_cases c2 : i = rFr m
      · rw [c2, rUp_s, rUp_n (fun h => n2 h.symm), rUp_n (fun h => n5 h.symm)]
        unfold rM3 rM2
        rw [rUp_n n6, rUp_s]
      · rw [rUp_n c2]
        by_cases c3 : i = rCo (rFr m) (rTo m)
        · rw [c3, rUp_s, rUp_s]
        · rw [rUp_n c3, rUp_n c3]
          by_cases c4 : i = rOv (rFr m) (rTo m)
          · rw [c4, rUp_s, rUp_s, e3 _ n1 n2]
          · rw [rUp_n c4, rUp_n c4, e3 _ c1 c2]
  · have hv : ¬ rVc q m := fun h => hc ((rVc_i hd hl).mp h)
    rw [rM4_n hc]
    unfold rV3 rV2
    rw [rV1_n hv]
    unfold rM3 rM2 rM1
    by_cases h : rVd q m
    · rw [rV0_y h]
      have hw := (rVd_i hd hl).mp h
      have e : rWh q m = 8 * (rFr m / 8) + rTo m % 8 := by
        unfold rWh at hw ⊢
        split at hw
        next c => rw [if_pos c]
        next => exact absurd rfl hw
      rw [e]
    · rw [rV0_n h]
      have hw : rWh q m = rTo m := by
        by_cases c : rWh q m = rTo m
        · exact c
        · exact absurd ((rVd_i hd hl).mpr c) h
      rw [hw, rUp_uu]
theorem rVk_eq {q : rQ} {m : Int} (hd : rGd q) (hl : rLm q m) : rVk q m = rMk q m := by
  have e := rV3_eq hd hl
  have e2 : rVp q m = rNp q m := by
    unfold rVp rNp
    by_cases h : rPa q m
    · have h2 : rVt q m := by
        unfold rVt
        rw [e]
        exact h
      rw [if_pos h, if_pos h2]
    · have h2 : ¬ rVt q m := by
        unfold rVt
        rw [e]
        exact h
      rw [if_neg h, if_neg h2]
  unfold rVk rMk
  rw [e, e2]
/-- an own man's kind does not matter to attacks of the other side -/
def rLk (M N : Int → Int) (b : Int) : Prop := ∀ i, M i = N i ∨ (¬ M i = 0 ∧ ¬ N i = 0 ∧ ¬ M i / 8 = b ∧ ¬ N i / 8 = b)
theorem rLk_g {M N : Int → Int} {b f r : Int} (h : rLk M N b) : ∀ {k : Nat} {t m : Int}, rGn M f r k t = some m → ∃ m', rGn N f r k t = some m' ∧ (m' = m ∨ (¬ m = 0 ∧ ¬ m' = 0 ∧ ¬ m / 8 = b ∧ ¬ m' / 8 = b))
  | 0, _, _, e => by cases e
  | k + 1, t, m, e => by
    unfold rGn at e ⊢
    by_cases c : t < 0
    · rw [if_pos c] at e ⊢
      exact ⟨m, e, Or.inl rfl⟩
    · rw [if_neg c] at e ⊢
      by_cases c2 : M t = 0
      · have c3 : N t = 0 := by
          rcases h t with h1 | ⟨h1, -⟩
          · rw [← h1]; exact c2
          · exact absurd c2 h1
        rw [if_pos c2] at e
        rw [if_pos c3]
        exact rLk_g h e
      · have c3 : ¬ N t = 0 := by
          rcases h t with h1 | ⟨-, h1, -⟩
          · rw [← h1]; exact c2
          · exact h1
        rw [if_neg c2] at e
        rw [if_neg c3]
        have e := Option.some.inj e
        refine ⟨N t, rfl, ?_⟩
        rcases h t with h1 | ⟨h1, h2, h3, h4⟩
        · exact Or.inl (by rw [← e, h1])
        · rw [← e]
          exact Or.inr ⟨h1, h2, h3, h4⟩
theorem rLk_v {M N : Int → Int} {b i v : Int} (h : rLk M N b) (hv : v / 8 = b) (e : M i = v) : N i = v := by
  rcases h i with h1 | ⟨-, -, h3, -⟩
  · rw [← h1]; exact e
  · rw [e] at h3; exact absurd hv h3
theorem rLk_a {M N : Int → Int} {s b : Int} (h : rLk M N b) (ha : rAk M s b) : rAk N s b := by
  rcases ha with ⟨h1, h2⟩ | ⟨h1, h2⟩ | ⟨f, r, f1, f2, r1, r2, ha⟩
  · exact Or.inl ⟨h1, rLk_v h (by omega) h2⟩
  · exact Or.inr (Or.inl ⟨h1, rLk_v h (by omega) h2⟩)
  · refine Or.inr (Or.inr ⟨f, r, f1, f2, r1, r2, ?_⟩)
    rcases ha with ⟨h1, h2, h3⟩ | ⟨h1, h2, ⟨h3, h4⟩ | ⟨m, ⟨k, h3⟩, h4⟩⟩
    · exact Or.inl ⟨h1, h2, rLk_v h (by omega) h3⟩
    · exact Or.inr ⟨h1, h2, Or.inl ⟨h3, rLk_v h (by omega) h4⟩⟩
    · obtain ⟨m', e, h5⟩ := rLk_g h h3
      refine Or.inr ⟨h1, h2, Or.inr ⟨m', ⟨k, e⟩, ?_⟩⟩
      rcases h5 with h5 | ⟨-, -, h6, -⟩
      · rw [h5]; exact h4
      · omega
