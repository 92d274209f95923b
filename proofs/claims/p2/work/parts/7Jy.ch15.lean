/-! CLASS: what stands between two calls -/
noncomputable def cI (K : Nat → Nat) (n : Nat) (σ : Nat → jcell) (ch en : Nat) : Prop := aH fa_T K n σ ∧ aH fa_T (cK K) n σ ∧ fJX K n σ ∧ fJX (cK K) n σ ∧ cJ K n σ en ∧ (∀ a, a < n → zPl (σ a)) ∧ ch < n ∧ K ch = 0 ∧ ∃ (fs : List jv) (g s : Nat), σ ch = .inr (0, fs) ∧ fs[10]? = some (fR g) ∧ fs[11]? = some (fR s) ∧ g < n ∧ K g = 25 ∧ s < n ∧ K s = 1025 ∧ fTG K n σ g
noncomputable def fS2 (K : Nat → Nat) (n : Nat) (σ σ' : Nat → jcell) : Prop := ∀ a, a < n → fo1 (K a) → ¬ gk (K a) → σ' a = σ a
section CIS
variable {K K' : Nat → Nat} {n n' ch en g : Nat} {σ σ' : Nat → jcell}
theorem fS_2 (h : fS K n σ σ') : fS2 K n σ σ' := fun a ha h1 _ => h a ha h1
theorem okm_1 {md : List (Nat × Nat)} (hm : md.all okm = true) : md.all (fun q => Nat.blt q.1 55 || Nat.beq q.1 114) = true := List.all_eq_true.mpr (fun q hq => by
  have h9 := List.all_eq_true.mp hm q hq
  unfold okm at h9
  rw [Bool.and_eq_true] at h9
  exact h9.1)
theorem okm_2 {md : List (Nat × Nat)} (hm : md.all okm = true) : md.all (fun q => !(Nat.beq q.1 23 && (Nat.beq q.2 3 || (Nat.beq q.2 4 || (Nat.beq q.2 5 || Nat.beq q.2 7))))) = true := List.all_eq_true.mpr (fun q hq => by
  have h9 := List.all_eq_true.mp hm q hq
  unfold okm at h9
  rw [Bool.and_eq_true, Bool.and_eq_true] at h9
  exact h9.2.1)
theorem cI_fr {md : List (Nat × Nat)} {mk : List (Nat × aF)} {ρ : List jv} {fs : List jv} (h : cI K n σ ch en) (hs : σ ch = .inr (0, fs)) (hg : fs[10]? = some (fR g)) (h1 : aH fa_T K n σ') (h2 : fJX K n σ') (h3 : aFr K n md σ σ') (h4 : aFa K n mk ρ σ σ') (ht : fTG K n σ' g) (hm : md.all okm = true) (hk2 : mk.all okk = true) : cI K n σ' ch en ∧ fS K n σ σ' := by
  obtain ⟨-, i2, -, i4, i5, i6, i7, i8, fs0, g0, s0, e0, e1, e2, e3, e4, e5, e6, -⟩ := h
  rw [hs] at e0
  obtain rfl := (Prod.mk.inj (Sum.inr.inj e0)).2
  rw [hg] at e1
  cases e1
  have hf := fS_of h3 h4 i6 (okm_1 hm) hk2
  have hsp : ∀ a, a < n → 1025 ≤ K a → K a ≤ 1051 → σ' a = σ a := fun a ha g1 _ => hf a ha (Or.inr (by omega))
  obtain ⟨fs', k1, k2, k3⟩ := cG_fr h3 i7 i8 hm 0 fs hs
  exact ⟨⟨h1, aH_tw h1 i2 hsp, h2, fJX_tw i4 hsp, cJ_fr i5 h3 h4 (okm_2 hm), zP_of h1 (fun a ha hk9 => by rw [hf a ha (Or.inr hk9)]; exact i6 a ha), i7, i8, fs', g, s0, k1, k2.trans hg, k3.trans e2, e3, e4, e5, e6, ht⟩, hf⟩
theorem gW_cK (w : gW K n K' n') : gW (cK K) n (cK K') n' := ⟨w.1, fun a ha => by
  show sK (K' a) = sK (K a)
  rw [w.2 a ha]⟩
theorem aH_twg (h1 : aH fa_T K' n' σ') (h2 : aH fa_T (cK K) n σ) (w : gW K n K' n') (hn : ∀ a, n ≤ a → a < n' → ¬ gk (K' a)) (hs : ∀ a, a < n → 1025 ≤ K a → K a ≤ 1051 → σ' a = σ a) : aH fa_T (cK K') n' σ' := by
  intro a ha d hd
  by_cases g1 : 25 ≤ K' a ∧ K' a ≤ 51
  · have e : cK K' a = K' a + 1000 := sK_up g1
    rw [e, List.getElem?_eq_none (by rw [kT_len]; omega)] at hd
    cases hd
  · by_cases g2 : 1025 ≤ K' a ∧ K' a ≤ 1051
    · have ha2 : a < n := by
        by_cases h9 : a < n
        · exact h9
        · exact absurd (Or.inr g2) (hn a (Nat.le_of_not_lt h9) ha)
      have e9 := w.2 a ha2
      rw [hs a ha2 (by omega) (by omega)]
      exact aCe_gw (gW_cK w) (h2 a ha2 d (by rw [← (gW_cK w).2 a ha2]; exact hd))
    · have e : cK K' a = K' a := sK_id g1 g2
      rw [e] at hd
      exact aCe_cK (kT_at hd g1) (h1 a ha d hd)
theorem fJX_gw (h : fJX K n σ) (w : gW K n K' n') (hn : ∀ a, n ≤ a → a < n' → ¬ (25 ≤ K' a ∧ K' a ≤ 51)) (hs : ∀ a, a < n → 25 ≤ K a → K a ≤ 51 → σ' a = σ a) : fJX K' n' σ' := by
  obtain ⟨h1, h2, h3, h4⟩ := h
  have lo : ∀ a q, a < n' → K' a = q → 25 ≤ q → q ≤ 51 → a < n ∧ K a = q := by
    intro a q ha hq g1 g2
    by_cases h9 : a < n
    · exact ⟨h9, (w.2 a h9).symm.trans hq⟩
    · have h8 := hn a (Nat.le_of_not_lt h9) ha
      omega
  refine ⟨fun a ha hq => ?_, fun a ha hq => ?_, fun a ha hq => ?_, fun a ha hq => ?_⟩
  · obtain ⟨l1, l2⟩ := lo a _ ha hq (by omega) (by omega)
    rw [hs a l1 (by omega) (by omega)]
    exact h1 a l1 l2
  · obtain ⟨l1, l2⟩ := lo a _ ha hq (by omega) (by omega)
    rw [hs a l1 (by omega) (by omega)]
    exact h2 a l1 l2
  · obtain ⟨l1, l2⟩ := lo a _ ha hq (by omega) (by omega)
    obtain ⟨n0, g1, g2, g3, fs, g4, g5⟩ := h3 a l1 l2
    exact ⟨n0, g1, by have := w.1; omega, fun j hj => by rw [w.2 _ (by omega)]; exact g3 j hj, fs, by rw [hs a l1 (by omega) (by omega)]; exact g4, g5⟩
  · obtain ⟨l1, l2⟩ := lo a _ ha hq (by omega) (by omega)
    rw [hs a l1 (by omega) (by omega)]
    exact h4 a l1 l2
theorem cI_aI {fs : List jv} (h : cI K n σ ch en) (hs : σ ch = .inr (0, fs)) (hg : fs[10]? = some (fR g)) (h2 : aEI K n σ ch en g K' n' σ') : cI K' n' σ' ch en ∧ fS K n σ σ' ∧ wR K n K' n' := by
  obtain ⟨-, i2, -, i4, i5, i6, i7, i8, fs0, g0, s0, e0, e1, e2, e3, e4, e5, e6, -⟩ := h
  rw [hs] at e0
  obtain rfl := (Prod.mk.inj (Sum.inr.inj e0)).2
  rw [hg] at e1
  cases e1
  obtain ⟨j1, j2, j3, w, j5, j6, j7, hf, j9, -, -⟩ := h2
  have hsp : ∀ a, a < n → 1025 ≤ K a → K a ≤ 1051 → σ' a = σ a := fun a ha g1 _ => hf a ha (Or.inr (by omega))
  obtain ⟨fs', k1, k2, k3⟩ := j9 0 fs hs
  refine ⟨⟨j1, aH_twg j1 i2 w (fun a h1 h2 => tb4_gk (j5 a h1 h2)) hsp, j2, fJX_gw i4 (gW_cK w) (fun a h1 h2 => ?_) (fun a ha h1 h2 => hsp a ha (cK_sp.mp ⟨h1, h2⟩).1 (cK_sp.mp ⟨h1, h2⟩).2), j3, j6, Nat.lt_of_lt_of_le i7 w.1, (w.2 ch i7).trans i8, fs', g, s0, k1, k2.trans hg, k3.trans e2, Nat.lt_of_lt_of_le e3 w.1, (w.2 g e3).trans e4, Nat.lt_of_lt_of_le e5 w.1, (w.2 s0 e5).trans e6, j7⟩, hf, wR_gw w j5⟩
  rw [cK_sp]
  have h8 := j5 a h1 h2
  unfold tb4 at h8
  omega
/-- a command that was run in the kinds in which the spare game is known -/
theorem cI_B {md : List (Nat × Nat)} {mk : List (Nat × aF)} {ρ : List jv} {fs : List jv} {s : Nat} {p : fP} (h : cI K n σ ch en) (hs : σ ch = .inr (0, fs)) (hg : fs[10]? = some (fR g)) (hg2 : fs[11]? = some (fR s)) (h1 : aH fa_T (cK K) n σ') (h2 : fJX (cK K) n σ') (h3 : aFr (cK K) n md σ σ') (h4 : aFa (cK K) n mk ρ σ σ') (hq : fF (cK K) n p 2019 [fR ch, fR g, fR s] σ') (hm1 : md.all (fun q => Nat.blt q.1 55 || Nat.beq q.1 114) = true) (hm2 : md.all (fun q => !(Nat.beq q.1 23 && (Nat.beq q.2 3 || (Nat.beq q.2 4 || (Nat.beq q.2 5 || Nat.beq q.2 7))))) = true) (hk2 : mk.all okk = true) : ∃ K', (K' = K ∨ K' = cK K) ∧ cI K' n σ' ch en ∧ fS2 K n σ σ' := by
  obtain ⟨i1, i2, i3, i4, i5, i6, i7, i8, fs0, g0, s0, e0, e1, e2, e3, e4, e5, e6, e7⟩ := h
  rw [hs] at e0
  obtain rfl := (Prod.mk.inj (Sum.inr.inj e0)).2
  rw [hg] at e1
  cases e1
  rw [hg2] at e2
  cases e2
  have hf := fS_of h3 h4 i6 hm1 hk2
  have hsp : ∀ a, a < n → 1025 ≤ cK K a → cK K a ≤ 1051 → σ' a = σ a := fun a ha g1 _ => hf a ha (Or.inr (by omega))
  have ee : cK (cK K) = K := cK_cK K
  have a1 : aH fa_T K n σ' := by
    have := aH_tw (K := cK K) h1 (by rw [ee]; exact i1) hsp
    rw [ee] at this
    exact this
  have a2 : fJX K n σ' := by
    have := fJX_tw (K := cK K) (σ := σ) (σ' := σ') (by rw [ee]; exact i3) hsp
    rw [ee] at this
    exact this
  have a3 : cJ (cK K) n σ' en := cJ_fr (cJ_cK i5) h3 h4 hm2
  have a4 : cJ K n σ' en := by
    have := cJ_cK a3
    rw [ee] at this
    exact this
  have a5 : ∀ a, a < n → zPl (σ' a) := zP_of h1 (fun a ha hk9 => by rw [hf a ha (Or.inr hk9)]; exact i6 a ha)
  have hgs : ∀ a, a < n → 25 ≤ K a → K a ≤ 51 → σ' a = σ a := fun a ha g1 g2 => hsp a ha (by show 1025 ≤ sK (K a); rw [sK_up ⟨g1, g2⟩]; omega) (by show sK (K a) ≤ 1051; rw [sK_up ⟨g1, g2⟩]; omega)
  have a6 : fS2 K n σ σ' := fun a ha h5 h6 => hf a ha (by
    have : cK K a = K a := sK_id (fun h => h6 (Or.inl h)) (fun h => h6 (Or.inr h))
    rw [this]
    exact h5)
  have hb : fC0 (cK K) n 126 [fR ch, fR g, fR s] σ' := (fF_b (r := 2019) (by decide) rfl).mp hq
  obtain ⟨c9, g9, s9, v9, hb⟩ := hb
  cases v9
  have gk1 : cK K g = 1025 := by
    show sK (K g) = 1025
    rw [e4]
    rfl
  have sk1 : cK K s = 25 := by
    show sK (K s) = 25
    rw [e6]
    rfl
  have ck1 : cK K ch = 0 := by
    show sK (K ch) = 0
    rw [i8]
    rfl
  rcases hb with ⟨⟨-, -, c, fs', k1, k2⟩, ⟨-, -, c2, fs2, k3, k4⟩⟩ | ⟨⟨-, -, c, fs', k1, k2⟩, ⟨-, -, c2, fs2, k3, k4⟩, k5⟩
  · rw [k1] at k3
    obtain ⟨rfl, rfl⟩ := Prod.mk.inj (Sum.inr.inj k3)
    obtain ⟨fx, x1, -⟩ := h3 ch i7 0 fs hs
    rw [x1] at k1
    obtain ⟨rfl, rfl⟩ := Prod.mk.inj (Sum.inr.inj k1)
    exact ⟨K, Or.inl rfl, ⟨a1, h1, a2, h2, a4, a5, i7, i8, fx, g, s, x1, k2, k4, e3, e4, e5, e6, fTG_gy (fun a ha h5 h6 => ⟨ha, rfl, hgs a ha h5 h6⟩) e7⟩, a6⟩
  · rw [k1] at k3
    obtain ⟨rfl, rfl⟩ := Prod.mk.inj (Sum.inr.inj k3)
    obtain ⟨fx, x1, -⟩ := h3 ch i7 0 fs hs
    rw [x1] at k1
    obtain ⟨rfl, rfl⟩ := Prod.mk.inj (Sum.inr.inj k1)
    exact ⟨cK K, Or.inr rfl, ⟨h1, by rw [ee]; exact a1, h2, by rw [ee]; exact a2, a3, a5, i7, ck1, fx, s, g, x1, k2, k4, e5, sk1, e3, gk1, k5⟩, a6⟩
end CIS
