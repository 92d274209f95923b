/-! CLASS AND REFERENCE in one world -/
noncomputable def rfk (k : Nat) : Prop := 55 ≤ k ∧ k ≤ 113
/-- the reference stands -/
noncomputable def rJ (K : Nat → Nat) (n : Nat) (σ : Nat → jcell) (mm : Nat) : Prop := mm < n ∧ K mm = 55 ∧ (∃ (mt : Nat) (fs : List jv), σ mm = .inr (11, fs) ∧ fs[5]? = some (rR mt) ∧ mt < n ∧ K mt = 62 ∧ rB3 0 K n zP0 367 [rR mt] σ) ∧ rB3 0 K n zP0 399 [rR mm] σ
section RIS
variable {K K' : Nat → Nat} {n n' ch en mm : Nat} {σ σ' : Nat → jcell}
theorem rJ_gy (h : gY rfk K n σ K' n' σ') (hz : ∀ q, q < n' → K' q = 109 → q < n ∧ K q = 109) (hi : rJ K n σ mm) : rJ K' n' σ' mm := by
  obtain ⟨h1, h2, ⟨mt, fs, h3, h4, h5, h6, h7⟩, h8⟩ := hi
  obtain ⟨a1, a2, a3⟩ := h mm h1 (by rw [h2]; unfold rfk; omega)
  obtain ⟨b1, b2, b3⟩ := h mt h5 (by rw [h6]; unfold rfk; omega)
  refine ⟨a1, a2.trans h2, ⟨mt, fs, a3.trans h3, h4, b1, b2.trans h6, rGT_gy h (fun k h1 h2 => by unfold rfk; omega) h7⟩, ro3_399.mpr ?_⟩
  rcases ro3_399.mp h8 with ⟨c1, c2⟩ | ⟨m, c1, g, c2, c3⟩
  · exact Or.inl ⟨rOb_gy h (by unfold rfk; omega) c1, fun q hq hk => c2 q (hz q hq hk).1 (hz q hq hk).2⟩
  · exact Or.inr ⟨m, rOb_gy h (by unfold rfk; omega) c1, g, rRo_gy h (by unfold rfk; omega) (by unfold rfk; omega) c2, c3⟩
/-- what the class does leaves the reference as it was -/
theorem rJ_cl (hw : wR K n K' n') (hs : fS2 K n σ σ') (hi : rJ K n σ mm) : rJ K' n' σ' mm := by
  refine rJ_gy (fun a ha hk => ?_) (fun q hq hk => ?_) hi
  · have hg : ¬ gk (K a) := by
      unfold rfk at hk
      unfold gk
      omega
    exact ⟨Nat.lt_of_lt_of_le ha hw.1, hw.2.1 a ha hg, hs a ha (Or.inl hk) hg⟩
  · by_cases h9 : q < n
    · by_cases hg : gk (K q)
      · have := hw.2.2.1 q h9 hg
        rw [hk] at this
        exact absurd this (by unfold gk; omega)
      · exact ⟨h9, (hw.2.1 q h9 hg).symm.trans hk⟩
    · have := hw.2.2.2 q (Nat.le_of_not_lt h9) hq
      rw [hk] at this
      exact absurd this (by unfold tb4; omega)
theorem kN_gw {k : Nat} (w : gW K n K' n') (hk : ∀ a, n ≤ a → a < n' → ¬ K' a = k) : kN K' k n' = kN K k n := by
  have key : ∀ j, n + j ≤ n' → kN K' k (n + j) = kN K k n := by
    intro j
    induction j with
    | zero => intro _; exact kN_eq n (fun a ha => w.2 a ha)
    | succ j ih =>
      intro hj
      show kN K' k (n + j) + (if K' (n + j) = k then 1 else 0) = _
      rw [ih (by omega), if_neg (hk (n + j) (by omega) (by omega))]
      rfl
  have := key (n' - n) (by have := w.1; omega)
  rw [show n + (n' - n) = n' by have := w.1; omega] at this
  exact this
/-- kinds of cells that the class does not know -/
noncomputable def nwk (k : Nat) : Prop := rfk k ∨ k = 999
theorem nwk_gk {k : Nat} (h : nwk k) : ¬ gk k ∧ ¬ tb4 k ∧ ¬ k = 23 ∧ ¬ k = 6 ∧ ¬ k = 0 := by
  unfold nwk rfk at h
  unfold gk tb4
  omega
theorem cI_gw (h : cI K n σ ch en) (w : gW K n K' n') (hn : ∀ a, n ≤ a → a < n' → nwk (K' a)) (hH : aH fa_T K' n' σ') (hs : ∀ a, a < n → ¬ nwk (K a) → σ' a = σ a) (hz : ∀ a, a < n' → zPl (σ' a)) : cI K' n' σ' ch en := by
  obtain ⟨i1, i2, i3, i4, i5, i6, i7, i8, fs, g, s, e0, e1, e2, e3, e4, e5, e6, e7⟩ := h
  have hgk : ∀ a, a < n → gk (K a) → σ' a = σ a := fun a ha hk => hs a ha (fun h9 => (nwk_gk h9).1 hk)
  have hsp : ∀ a, a < n → 1025 ≤ K a → K a ≤ 1051 → σ' a = σ a := fun a ha g1 g2 => hgk a ha (Or.inr ⟨g1, g2⟩)
  have hgm : ∀ a, a < n → 25 ≤ K a → K a ≤ 51 → σ' a = σ a := fun a ha g1 g2 => hgk a ha (Or.inl ⟨g1, g2⟩)
  have hng : ∀ a, n ≤ a → a < n' → ¬ gk (K' a) := fun a h1 h2 => (nwk_gk (hn a h1 h2)).1
  have nk : ∀ k, tb4 k → ∀ a, n ≤ a → a < n' → ¬ K' a = k := fun k hk a h1 h2 e => (nwk_gk (hn a h1 h2)).2.1 (by rw [e]; exact hk)
  refine ⟨hH, aH_twg hH i2 w hng hsp, fJX_gw i3 w (fun a h1 h2 h9 => hng a h1 h2 (Or.inl h9)) hgm, fJX_gw i4 (gW_cK w) (fun a h1 h2 h9 => hng a h1 h2 (Or.inr (cK_sp.mp h9))) (fun a ha h1 h2 => hsp a ha (cK_sp.mp ⟨h1, h2⟩).1 (cK_sp.mp ⟨h1, h2⟩).2), ?_, hz, Nat.lt_of_lt_of_le i7 w.1, (w.2 ch i7).trans i8, fs, g, s, (hs ch i7 (by rw [i8]; unfold nwk rfk; omega)).trans e0, e1, e2, Nat.lt_of_lt_of_le e3 w.1, (w.2 g e3).trans e4, Nat.lt_of_lt_of_le e5 w.1, (w.2 s e5).trans e6, fTG_gy (fun a ha h1 h2 => ⟨Nat.lt_of_lt_of_le ha w.1, w.2 a ha, hgm a ha h1 h2⟩) e7⟩
  obtain ⟨g1, g2, g3, qr, fs9, v3, v4, v5, f0, f3, f4, f5, f7, g4, q1, q2, q3⟩ := i5
  refine ⟨Nat.lt_of_lt_of_le g1 w.1, (w.2 en g1).trans g2, fun a ha hk => ?_, qr, fs9, v3, v4, v5, (hs en g1 (by rw [g2]; unfold nwk rfk; omega)).trans f0, f3, f4, f5, f7, Nat.lt_of_lt_of_le g4 w.1, ?_⟩
  · by_cases h9 : a < n
    · exact g3 a h9 ((w.2 a h9).symm.trans hk)
    · exact absurd hk (nwk_gk (hn a (Nat.le_of_not_lt h9) ha)).2.2.1
  · unfold cQ
    rw [kN_gw w (nk 114 (Or.inl rfl)), kN_gw w (nk 52 (Or.inr (Or.inl rfl))), kN_gw w (nk 53 (Or.inr (Or.inr (Or.inl rfl)))), kN_gw w (nk 54 (Or.inr (Or.inr (Or.inr rfl)))), w.2 qr g4]
    refine ⟨q1, q2, ?_⟩
    rcases q3 with ⟨a1, ⟨gg, a2⟩, a3⟩ | q3
    · exact Or.inl ⟨a1, ⟨gg, (hs qr g4 (by rw [a1]; unfold nwk rfk; omega)).trans a2⟩, a3⟩
    · exact Or.inr q3
theorem uW_gw {w0 : Nat} (h : uW K n w0) (w : gW K n K' n') (hn : ∀ a, n ≤ a → a < n' → nwk (K' a)) : uW K' n' w0 := by
  obtain ⟨h1, h2, h3⟩ := h
  refine ⟨Nat.lt_of_lt_of_le h1 w.1, (w.2 w0 h1).trans h2, fun a ha hk => ?_⟩
  by_cases h9 : a < n
  · exact h3 a h9 ((w.2 a h9).symm.trans hk)
  · exact absurd hk (nwk_gk (hn a (Nat.le_of_not_lt h9) ha)).2.2.2.1
theorem tC_gw (w : gW K n K' n') (hn : ∀ a, n ≤ a → a < n' → nwk (K' a)) : tC K' n' = tC K n := by
  have nk : ∀ k, tb4 k → ∀ a, n ≤ a → a < n' → ¬ K' a = k := fun k hk a h1 h2 e => (nwk_gk (hn a h1 h2)).2.1 (by rw [e]; exact hk)
  unfold tC
  rw [kN_gw w (nk 114 (Or.inl rfl)), kN_gw w (nk 52 (Or.inr (Or.inl rfl))), kN_gw w (nk 53 (Or.inr (Or.inr (Or.inl rfl)))), kN_gw w (nk 54 (Or.inr (Or.inr (Or.inr rfl))))]
/-- an exception is a cell that nobody knows -/
theorem jun_H (h : aH fa_T K n σ) : aH fa_T (gK K n 999) (n + 1) (jup σ n jun) := aH_gK h (fun d hd => by cases hd)
theorem cI_jun (h : cI K n σ ch en) : cI (gK K n 999) (n + 1) (jup σ n jun) ch en := by
  refine cI_gw h gK_gw (fun a h1 h2 => ?_) (jun_H h.1) (fun a ha _ => jup_n (by omega)) (fun a ha => ?_)
  · obtain rfl : a = n := by omega
    rw [gK_at]
    exact Or.inr rfl
  · by_cases e : a = n
    · subst e
      rw [jup_s]
      trivial
    · rw [jup_n e]
      exact h.2.2.2.2.2.1 a (by omega)
theorem rJ_jun (h : rJ K n σ mm) : rJ (gK K n 999) (n + 1) (jup σ n jun) mm := rJ_gy (fun a ha _ => ⟨by omega, gK_lo ha, jup_n (by omega)⟩) (fun q hq hk => by
  by_cases h9 : q < n
  · rw [gK_lo h9] at hk
    exact ⟨h9, hk⟩
  · obtain rfl : q = n := by omega
    rw [gK_at] at hk
    omega) h
/-- a cell that belongs to nobody is written -/
theorem cI_up {o : Nat} {c : jcell} (h : cI K n σ ch en) (ho : o < n) (hk : K o = 999) (hz : zPl c) : cI K n (jup σ o c) ch en := cI_gw h gW_rf (fun a h1 h2 => absurd h2 (Nat.not_lt.mpr h1)) (aH_up h.1 (fun d hd => by rw [hk] at hd; cases hd)) (fun a ha h9 => jup_n (fun e => h9 (by rw [e, hk]; exact Or.inr rfl))) (fun a ha => by
  by_cases e : a = o
  · subst e
    rw [jup_s]
    exact hz
  · rw [jup_n e]
    exact h.2.2.2.2.2.1 a ha)
theorem rJ_up {o : Nat} {c : jcell} (h : rJ K n σ mm) (hk : K o = 999) : rJ K n (jup σ o c) mm := rJ_gy (fun a ha h9 => ⟨ha, rfl, jup_n (fun e => by rw [e, hk] at h9; unfold rfk at h9; omega)⟩) (fun q hq h9 => ⟨hq, h9⟩) h
/-- what the reference does leaves the class as it was -/
theorem cI_rf {md : List (Nat × Nat)} {mk : List (Nat × aF)} {ρ : List jv} (h : cI K n σ ch en) (w : gW K n K' n') (hn : zKi n K' n') (hH : aH fa_T K' n' σ') (h3 : aFr K n md σ σ') (h4 : aFa K n mk ρ σ σ') (hm : md.all (fun q => Nat.ble 55 q.1 && Nat.ble q.1 113) = true) (hk : mk.all (fun q => Nat.ble 55 q.1 && Nat.ble q.1 113) = true) : cI K' n' σ' ch en ∧ (∀ a, a < n → ¬ rfk (K a) → σ' a = σ a) := by
  have z : ∀ k : Nat, (Nat.ble 55 k && Nat.ble k 113) = true → rfk k := fun k h9 => by
    rw [Bool.and_eq_true] at h9
    exact ⟨Nat.le_of_ble_eq_true h9.1, Nat.le_of_ble_eq_true h9.2⟩
  have hs : ∀ a, a < n → ¬ rfk (K a) → σ' a = σ a := fun a ha h9 => zPl_eq h3 h4 ha (h.2.2.2.2.2.1 a ha) (fun q hq e => h9 (by rw [← e]; exact z _ (List.all_eq_true.mp hm q hq))) (fun q hq e => h9 (by rw [← e]; exact z _ (List.all_eq_true.mp hk q hq)))
  refine ⟨cI_gw h w (fun a h1 h2 => Or.inl (hn a h1 h2)) hH (fun a ha h9 => hs a ha (fun h8 => h9 (Or.inl h8))) (zP_of hH (fun a ha hk9 => ?_)), hs⟩
  by_cases h9 : a < n
  · rw [hs a h9 (by rw [← w.2 a h9]; unfold rfk; omega)]
    exact h.2.2.2.2.2.1 a h9
  · have := hn a (Nat.le_of_not_lt h9) ha
    omega
/-- a frame that leaves games alone -/
theorem cI_fr2 {md : List (Nat × Nat)} {mk : List (Nat × aF)} {ρ : List jv} (h : cI K n σ ch en) (h1 : aH fa_T K n σ') (h2 : fJX K n σ') (h3 : aFr K n md σ σ') (h4 : aFa K n mk ρ σ σ') (hm : md.all (fun q => okm q && Nat.blt q.1 25) = true) (hk : mk.all (fun q => okk q && Nat.blt q.1 25) = true) : cI K n σ' ch en ∧ fS K n σ σ' := by
  obtain ⟨-, -, -, -, -, i6, i7, i8, fs, g, s, e0, e1, e2, e3, e4, e5, e6, e7⟩ := id h
  have m1 : md.all okm = true := List.all_eq_true.mpr (fun q hq => by
    have := List.all_eq_true.mp hm q hq
    rw [Bool.and_eq_true] at this
    exact this.1)
  have m2 : mk.all okk = true := List.all_eq_true.mpr (fun q hq => by
    have := List.all_eq_true.mp hk q hq
    rw [Bool.and_eq_true] at this
    exact this.1)
  refine cI_fr h e0 e1 h1 h2 h3 h4 (fTG_gy (fun a ha g1 g2 => ⟨ha, rfl, zPl_eq h3 h4 ha (i6 a ha) (fun q hq e => ?_) (fun q hq e => ?_)⟩) e7) m1 m2
  · have := List.all_eq_true.mp hm q hq
    rw [Bool.and_eq_true] at this
    have := Nat.le_of_ble_eq_true this.2
    omega
  · have := List.all_eq_true.mp hk q hq
    rw [Bool.and_eq_true] at this
    have := Nat.le_of_ble_eq_true this.2
    omega
end RIS
