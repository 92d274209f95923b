/-! CLASS: worlds, what is kept in them, how many tables there are -/
def gk (k : Nat) : Prop := (25 ≤ k ∧ k ≤ 51) ∨ (1025 ≤ k ∧ k ≤ 1051)
def tb4 (k : Nat) : Prop := k = 114 ∨ k = 52 ∨ k = 53 ∨ k = 54
def fo1 (k : Nat) : Prop := (55 ≤ k ∧ k ≤ 113) ∨ 115 ≤ k
def nl (v : jv) : Nat := match v with
  | .inr (.inr none) => 1
  | _ => 0
theorem nl_le (v : jv) : nl v ≤ 1 := by
  rcases v with x | x | _ | x
  · exact Nat.zero_le _
  · exact Nat.zero_le _
  · exact Nat.le_refl _
  · exact Nat.zero_le _
/-- the rows of the tables and of the queue: how many there may be -/
def cQ (K : Nat → Nat) (n : Nat) (σ : Nat → jcell) (qr : Nat) (v3 v4 v5 : jv) : Prop := kN K 114 n + nl v3 + nl v4 ≤ 2 ∧ kN K 52 n + nl v5 ≤ 1 ∧ ((K qr = 998 ∧ (∃ g, σ qr = .inl (.int, 0, .inl g)) ∧ kN K 53 n = 0 ∧ kN K 54 n = 0) ∨ (K qr = 53 ∧ kN K 53 n ≤ 1 ∧ kN K 54 n = 0) ∨ (K qr = 54 ∧ kN K 53 n ≤ 1 ∧ kN K 54 n ≤ 1 ∧ nl v3 = 0 ∧ nl v4 = 0 ∧ nl v5 = 0))
def cJ (K : Nat → Nat) (n : Nat) (σ : Nat → jcell) (en : Nat) : Prop := en < n ∧ K en = 23 ∧ (∀ a, a < n → K a = 23 → a = en) ∧ ∃ (qr : Nat) (fs : List jv) (v3 v4 v5 : jv), σ en = .inr (8, fs) ∧ fs[3]? = some v3 ∧ fs[4]? = some v4 ∧ fs[5]? = some v5 ∧ fs[7]? = some (fR qr) ∧ qr < n ∧ cQ K n σ qr v3 v4 v5
section CJS
variable {K K' : Nat → Nat} {n n' en : Nat} {σ σ' : Nat → jcell}
theorem cJ_rm (h : cJ K n σ en) : tC K n ≤ 5 ∧ tS K n ≤ 638976 := by
  obtain ⟨-, -, -, qr, fs, v3, v4, v5, -, -, -, -, -, -, h1, h2, h3⟩ := h
  unfold tC tS
  have e3 := nl_le v3
  have e4 := nl_le v4
  have e5 := nl_le v5
  rcases h3 with ⟨-, -, q1, q2⟩ | ⟨-, q1, q2⟩ | ⟨-, q1, q2, -⟩ <;> omega
theorem cJ_fr {md : List (Nat × Nat)} {mk : List (Nat × aF)} {ρ : List jv} (h : cJ K n σ en) (h1 : aFr K n md σ σ') (h2 : aFa K n mk ρ σ σ') (hm : md.all (fun q => !(Nat.beq q.1 23 && (Nat.beq q.2 3 || (Nat.beq q.2 4 || (Nat.beq q.2 5 || Nat.beq q.2 7))))) = true) : cJ K n σ' en := by
  obtain ⟨g1, g2, g3, qr, fs, v3, v4, v5, e0, e3, e4, e5, e7, g4, q1, q2, q3⟩ := h
  obtain ⟨fs', k1, k2, k3⟩ := h1 en g1 8 fs e0
  have hn : ∀ f, (f = 3 ∨ f = 4 ∨ f = 5 ∨ f = 7) → ¬ (K en, f) ∈ md := fun f hf hq => by
    have h9 := List.all_eq_true.mp hm _ hq
    dsimp only at h9
    rw [g2] at h9
    rcases hf with rfl | rfl | rfl | rfl
    all_goals exact absurd h9 (by decide)
  refine ⟨g1, g2, g3, qr, fs', v3, v4, v5, k1, k3 3 _ e3 (hn 3 (by simp)), k3 4 _ e4 (hn 4 (by simp)), k3 5 _ e5 (hn 5 (by simp)), k3 7 _ e7 (hn 7 (by simp)), g4, q1, q2, ?_⟩
  rcases q3 with ⟨a1, ⟨g, a2⟩, a3⟩ | q3
  · obtain ⟨g', b1, -⟩ := (h2 qr g4).1 .int 0 g a2
    exact Or.inl ⟨a1, ⟨g', b1⟩, a3⟩
  · exact Or.inr q3
theorem sK_eq {k j : Nat} (hj : ¬ gk j) : sK k = j ↔ k = j := by
  unfold gk at hj
  by_cases h1 : 25 ≤ k ∧ k ≤ 51
  · rw [sK_up h1]
    omega
  · by_cases h2 : 1025 ≤ k ∧ k ≤ 1051
    · rw [sK_dn h2]
      omega
    · rw [sK_id h1 h2]
theorem kN_cK {j : Nat} (hj : ¬ gk j) : ∀ (n : Nat), kN (cK K) j n = kN K j n
  | 0 => rfl
  | n + 1 => by
    show kN (cK K) j n + (if sK (K n) = j then 1 else 0) = kN K j n + (if K n = j then 1 else 0)
    rw [kN_cK hj n]
    by_cases h : K n = j
    · rw [if_pos h, if_pos ((sK_eq hj).mpr h)]
    · rw [if_neg h, if_neg (fun h9 => h ((sK_eq hj).mp h9))]
theorem tC_cK : tC (cK K) n = tC K n := by
  unfold tC
  rw [kN_cK (by unfold gk; decide), kN_cK (by unfold gk; decide), kN_cK (by unfold gk; decide), kN_cK (by unfold gk; decide)]
theorem tS_cK : tS (cK K) n = tS K n := by
  unfold tS
  rw [kN_cK (by unfold gk; decide), kN_cK (by unfold gk; decide), kN_cK (by unfold gk; decide), kN_cK (by unfold gk; decide)]
theorem cJ_cK (h : cJ K n σ en) : cJ (cK K) n σ en := by
  obtain ⟨g1, g2, g3, qr, fs, v3, v4, v5, e0, e3, e4, e5, e7, g4, q1, q2, q3⟩ := h
  have z : ∀ (a j : Nat), ¬ gk j → (cK K a = j ↔ K a = j) := fun a j hj => sK_eq hj
  refine ⟨g1, (z en 23 (by unfold gk; decide)).mpr g2, fun a ha hk => g3 a ha ((z a 23 (by unfold gk; decide)).mp hk), qr, fs, v3, v4, v5, e0, e3, e4, e5, e7, g4, ?_⟩
  unfold cQ
  rw [kN_cK (by unfold gk; decide), kN_cK (by unfold gk; decide), kN_cK (by unfold gk; decide), kN_cK (by unfold gk; decide), z qr 998 (by unfold gk; decide), z qr 53 (by unfold gk; decide), z qr 54 (by unfold gk; decide)]
  exact ⟨q1, q2, q3⟩
/-- a world that comes from another one: games may have been swapped, tables made -/
def wR (K : Nat → Nat) (n : Nat) (K' : Nat → Nat) (n' : Nat) : Prop := n ≤ n' ∧ (∀ a, a < n → ¬ gk (K a) → K' a = K a) ∧ (∀ a, a < n → gk (K a) → gk (K' a)) ∧ ∀ a, n ≤ a → a < n' → tb4 (K' a)
theorem wR_rf : wR K n K n := ⟨Nat.le_refl _, fun _ _ _ => rfl, fun _ _ h => h, fun a h1 h2 => absurd h2 (Nat.not_lt.mpr h1)⟩
theorem tb4_gk {k : Nat} (h : tb4 k) : ¬ gk k := by
  unfold tb4 at h
  unfold gk
  omega
theorem wR_tr {K2 : Nat → Nat} {n2 : Nat} (h : wR K n K' n') (h2 : wR K' n' K2 n2) : wR K n K2 n2 := by
  refine ⟨Nat.le_trans h.1 h2.1, fun a ha hk => ?_, fun a ha hk => h2.2.2.1 a (Nat.lt_of_lt_of_le ha h.1) (h.2.2.1 a ha hk), fun a h1 h3 => ?_⟩
  · have e := h.2.1 a ha hk
    rw [h2.2.1 a (Nat.lt_of_lt_of_le ha h.1) (by rw [e]; exact hk), e]
  · by_cases h4 : a < n'
    · have h5 := h.2.2.2 a h1 h4
      rw [h2.2.1 a h4 (tb4_gk h5)]
      exact h5
    · exact h2.2.2.2 a (Nat.le_of_not_lt h4) h3
theorem wR_cK : wR K n (cK K) n := ⟨Nat.le_refl _, fun a _ hk => sK_id (fun h => hk (Or.inl h)) (fun h => hk (Or.inr h)), fun a _ hk => by
  show gk (sK (K a))
  rcases hk with hk | hk
  · rw [sK_up hk]
    unfold gk
    omega
  · rw [sK_dn hk]
    unfold gk
    omega, fun a h1 h2 => absurd h2 (Nat.not_lt.mpr h1)⟩
theorem wR_gw (h : gW K n K' n') (ht : ∀ a, n ≤ a → a < n' → tb4 (K' a)) : wR K n K' n' := ⟨h.1, fun a ha _ => h.2 a ha, fun a ha hk => by rw [h.2 a ha]; exact hk, ht⟩
theorem wR_kN (h : wR K n K' n') {j : Nat} (hj : ¬ gk j) : kN K' j n = kN K j n := by
  have key : ∀ m, m ≤ n → kN K' j m = kN K j m := by
    intro m
    induction m with
    | zero => intro _; rfl
    | succ m ih =>
      intro hm
      show kN K' j m + (if K' m = j then 1 else 0) = kN K j m + (if K m = j then 1 else 0)
      rw [ih (by omega)]
      by_cases hg : gk (K m)
      · have h1 := h.2.2.1 m (by omega) hg
        rw [if_neg (fun e => hj (by rw [← e]; exact h1)), if_neg (fun e => hj (by rw [← e]; exact hg))]
      · rw [h.2.1 m (by omega) hg]
  exact key n (Nat.le_refl _)
theorem tb_ce {a k L : Nat} {ty : FieldType} {q : Int × Int} {r : List (Nat × Nat × Int × Int × Int)} (hH : aH fa_T K n σ) (ha : a < n) (hk : K a = k) (hT : fa_T[k]? = some (.inl (ty, L, q, r))) (hty : ¬ ty = .long) : ∃ g, σ a = .inl (ty, L, .inl g) := by
  have h := hH a ha _ (by rw [hk]; exact hT)
  rcases hc : σ a with ⟨t, m, g | g | g⟩ | y
  · rw [hc] at h
    obtain ⟨rfl, rfl, -⟩ := h
    exact ⟨g, rfl⟩
  · rw [hc] at h
    exact absurd h.2.2 hty
  · rw [hc] at h
    exact h.elim
  · rw [hc] at h
    exact h.elim
theorem gTi_w (hw : wR K n K' n') (hH : aH fa_T K' n' σ') : gTi n n' σ' (tC K' n' - tC K n) (tS K' n' - tS K n) := by
  have hc : tC K' n = tC K n := by
    unfold tC
    rw [wR_kN hw (by unfold gk; decide), wR_kN hw (by unfold gk; decide), wR_kN hw (by unfold gk; decide), wR_kN hw (by unfold gk; decide)]
  have hs : tS K' n = tS K n := by
    unfold tS
    rw [wR_kN hw (by unfold gk; decide), wR_kN hw (by unfold gk; decide), wR_kN hw (by unfold gk; decide), wR_kN hw (by unfold gk; decide)]
  have one : ∀ a, n ≤ a → a < n' → gAr (σ' a) ∧ tC K' (a + 1) = tC K' a + 1 ∧ tS K' (a + 1) = tS K' a + gLen (σ' a) := by
    intro a h1 h2
    unfold tC tS
    simp only [kN]
    rcases hw.2.2.2 a h1 h2 with e | e | e | e
    · obtain ⟨g, hg⟩ := tb_ce hH h2 e (L := 81920) rfl (by decide)
      rw [hg, e]
      refine ⟨⟨_, _, _, rfl, by decide⟩, by simp <;> omega, ?_⟩
      show _ = _ + 81920
      simp
      omega
    · obtain ⟨g, hg⟩ := tb_ce hH h2 e (L := 196608) rfl (by decide)
      rw [hg, e]
      refine ⟨⟨_, _, _, rfl, by decide⟩, by simp; omega, ?_⟩
      show _ = _ + 196608
      simp
      omega
    · obtain ⟨g, hg⟩ := tb_ce hH h2 e (L := 81920) rfl (by decide)
      rw [hg, e]
      refine ⟨⟨_, _, _, rfl, by decide⟩, by simp; omega, ?_⟩
      show _ = _ + 81920
      simp
      omega
    · obtain ⟨g, hg⟩ := tb_ce hH h2 e (L := 196608) rfl (by decide)
      rw [hg, e]
      refine ⟨⟨_, _, _, rfl, by decide⟩, by simp; omega, ?_⟩
      show _ = _ + 196608
      simp
      omega
  have key : ∀ j, n + j ≤ n' → tC K' (n + j) = tC K' n + j ∧ tS K' (n + j) = tS K' n + ((List.range j).map (fun i => gLen (σ' (n + i)))).sum := by
    intro j
    induction j with
    | zero => intro _; exact ⟨rfl, rfl⟩
    | succ j ih =>
      intro hj
      obtain ⟨i1, i2⟩ := ih (by omega)
      obtain ⟨-, o1, o2⟩ := one (n + j) (by omega) (by omega)
      refine ⟨?_, ?_⟩
      · show tC K' (n + j + 1) = _
        rw [o1, i1]
        omega
      · show tS K' (n + j + 1) = _
        rw [o2, i2, List.range_succ, List.map_append, List.sum_append]
        simp
        omega
  obtain ⟨k1, k2⟩ := key (n' - n) (by have := hw.1; omega)
  have e : n + (n' - n) = n' := by have := hw.1; omega
  rw [e] at k1 k2
  refine ⟨hw.1, by omega, fun a h1 h2 => (one a h1 h2).1, by omega⟩
/-- cells of kinds that the class does not touch -/
def fS (K : Nat → Nat) (n : Nat) (σ σ' : Nat → jcell) : Prop := ∀ a, a < n → fo1 (K a) → σ' a = σ a
theorem fS_of {md : List (Nat × Nat)} {mk : List (Nat × aF)} {ρ : List jv} (h1 : aFr K n md σ σ') (h2 : aFa K n mk ρ σ σ') (hz : ∀ a, a < n → zPl (σ a)) (hm : md.all (fun q => Nat.blt q.1 55 || Nat.beq q.1 114) = true) (hk : mk.all (fun q => Nat.blt q.1 55 || Nat.beq q.1 114) = true) : fS K n σ σ' := by
  intro a ha hf
  have z : ∀ k : Nat, fo1 k → (Nat.blt k 55 || Nat.beq k 114) = true → False := fun k h3 h4 => by
    rw [Bool.or_eq_true] at h4
    unfold fo1 at h3
    rcases h4 with h4 | h4
    · have := Nat.le_of_ble_eq_true h4
      omega
    · have := Nat.eq_of_beq_eq_true h4
      omega
  exact zPl_eq h1 h2 ha (hz a ha) (fun q hq e => z _ hf (by rw [← e]; exact List.all_eq_true.mp hm q hq)) (fun q hq e => z _ hf (by rw [← e]; exact List.all_eq_true.mp hk q hq))
theorem zP_of (hH : aH fa_T K n σ') (hs : ∀ a, a < n → 115 ≤ K a → zPl (σ' a)) : ∀ a, a < n → zPl (σ' a) := by
  intro a ha
  by_cases h : K a < 115
  · have h1 := hH a ha _ (List.getElem?_eq_getElem (by rw [kT_len]; exact h))
    rcases hc : σ' a with ⟨t, m, g | g | g⟩ | y
    · exact trivial
    · exact trivial
    · rw [hc] at h1
      unfold aCe at h1
      split at h1 <;> first | exact h1.elim | (rename_i he; cases he) | skip
    · exact trivial
  · exact hs a ha (by omega)
/-- a game stands also in a world where its cells are the same -/
theorem fTG_gy (h : ∀ a, a < n → 25 ≤ K a → K a ≤ 51 → a < n' ∧ K' a = K a ∧ σ' a = σ a) {a : Nat} (t : fTG K n σ a) : fTG K' n' σ' a := by
  have ro : ∀ {a f k : Nat} {g : Nat → Int32}, 25 ≤ k → k ≤ 51 → fRo K n σ a f k g → fRo K' n' σ' a f k g := by
    rintro a f k g k1 k2 ⟨h1, h2, fs, r, h3, h4, h5, h6, h7⟩
    obtain ⟨q1, q2, q3⟩ := h a h1 (by omega) (by omega)
    obtain ⟨r1, r2, r3⟩ := h r h5 (by omega) (by omega)
    exact ⟨q1, q2.trans h2, fs, r, q3.trans h3, h4, r1, r2.trans h6, r3.trans h7⟩
  have rl : ∀ {a : Nat} {g : Nat → Int64}, fRl K n σ a g → fRl K' n' σ' a g := by
    rintro a g ⟨h1, h2, fs, r, h3, h4, h5, h6, h7⟩
    obtain ⟨q1, q2, q3⟩ := h a h1 (by omega) (by omega)
    obtain ⟨r1, r2, r3⟩ := h r h5 (by omega) (by omega)
    exact ⟨q1, q2.trans h2, fs, r, q3.trans h3, h4, r1, r2.trans h6, r3.trans h7⟩
  have fi : ∀ {a f : Nat} {v : jv}, fFi K n σ a f v → fFi K' n' σ' a f v := by
    rintro a f v ⟨h1, h2, fs, h3, h4⟩
    obtain ⟨q1, q2, q3⟩ := h a h1 (by omega) (by omega)
    exact ⟨q1, q2.trans h2, fs, q3.trans h3, h4⟩
  have at9 : ∀ {b : Nat} {men F : Nat → Int32}, fAt K n σ b men F → fAt K' n' σ' b men F := by
    rintro b men F ⟨h1, h2, fs, r, g, h3, h4, h5, h6, h7, h8, h9, h10, h11, h12, rw, gw, h13, h14, h15, h16, h17⟩
    obtain ⟨q1, q2, q3⟩ := h b h1 (by omega) (by omega)
    obtain ⟨r1, r2, r3⟩ := h r h5 (by omega) (by omega)
    obtain ⟨s1, s2, s3⟩ := h rw h14 (by omega) (by omega)
    exact ⟨q1, q2.trans h2, fs, r, g, q3.trans h3, h4, r1, r2.trans h6, r3.trans h7, h8, h9, h10, h11, h12, rw, gw, h13, s1, s2.trans h15, s3.trans h16, h17⟩
  obtain ⟨b, h0, N, t, q, ⟨t1, t2, t3, t4, t5⟩, f0, f1, f2, n1, n2, k, at0⟩ := t
  exact ⟨b, h0, N, t, q, ⟨ro (by decide) (by decide) t1, ro (by decide) (by decide) t2, ro (by decide) (by decide) t3, ro (by decide) (by decide) t4, rl t5⟩, fi f0, fi f1, fi f2, n1, n2, k, at9 at0⟩
end CJS
