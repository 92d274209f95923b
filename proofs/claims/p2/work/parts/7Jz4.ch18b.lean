/-! Board: its constructor -/
noncomputable def bA (w r h : Nat → Int32) : Nat → Nat → Int32 := fun j => if j = 6 then w else if j = 7 then r else if j = 8 then h else fun _ => 0
section BAS
variable {w r h f : Nat → Int32}
theorem bA_6 : bA w r h 6 = w := rfl
theorem bA_7 : bA w r h 7 = r := rfl
theorem bA_8 : bA w r h 8 = h := rfl
theorem bA_u6 : va_up (bA w r h) 6 f = bA f r h := by
  funext j
  by_cases e : j = 6
  · subst e
    simp [va_up, bA]
  · simp [va_up, bA, e]
theorem bA_u7 : va_up (bA w r h) 7 f = bA w f h := by
  funext j
  by_cases e : j = 7
  · subst e
    simp [va_up, bA]
  · simp [va_up, bA, e]
theorem bA_u8 : va_up (bA w r h) 8 f = bA w r f := by
  funext j
  by_cases e : j = 8
  · subst e
    simp [va_up, bA]
  · simp [va_up, bA, e]
end BAS
noncomputable def xR (r : Nat → Int32) (i k : Nat) : Prop := ∀ s t, t < 8 → (s < i ∨ (s = i ∧ t < k)) → r (s * 8 + t) = sE (tv_0.getD t 0) 7 (nI s) 0
noncomputable def xH (h : Nat → Int32) (i : Nat) : Prop := ∀ s t, s < i → t < 8 → h (s * 8 + t) = hI (nI s) 64 t
noncomputable def xW (w : Nat → Int32) (i k : Nat) : Prop := (∀ s m, s < 64 → 1 ≤ m → m < 15 → (s < i ∨ (s = i ∧ m < k)) → w (m * 64 + s) = woF (nI m) (nI s)) ∧ ∀ j, (j < 64 ∨ 960 ≤ j) → w j = 0
theorem xR_st {r : Nat → Int32} {i k x : Nat} {v : Int32} (h : xR r i k) (hk : k < 8) (hx : x = i * 8 + k) (hv : v = sE (tv_0.getD k 0) 7 (nI i) 0) : xR (upd r x v) i (k + 1) := by
  intro s t ht hs
  by_cases e : s = i ∧ t = k
  · obtain ⟨rfl, rfl⟩ := e
    rw [← hx, upd_s]
    exact hv
  · rw [upd_o (by omega)]
    exact h s t ht (by omega)
theorem xR_nx {r : Nat → Int32} {i : Nat} (h : xR r i 8) : xR r (i + 1) 0 := fun s t ht hs => h s t ht (by omega)
theorem xH_nx {h g : Nat → Int32} {i : Nat} (hh : xH h i) (h1 : ∀ t, t < 8 → g (i * 8 + t) = hI (nI i) 64 t) (h2 : ∀ j, ¬ (i * 8 ≤ j ∧ j < i * 8 + 8) → g j = h j) : xH g (i + 1) := by
  intro s t hs ht
  by_cases e : s = i
  · subst e
    exact h1 t ht
  · rw [h2 _ (by omega)]
    exact hh s t (by omega) ht
theorem xW_st {w : Nat → Int32} {i k x : Nat} {v : Int32} (h : xW w i k) (hi : i < 64) (hk1 : 1 ≤ k) (hk : k < 15) (hx : x = k * 64 + i) (hv : v = woF (nI k) (nI i)) : xW (upd w x v) i (k + 1) := by
  refine ⟨fun s m hs h1 h2 h3 => ?_, fun j hj => ?_⟩
  · by_cases e : s = i ∧ m = k
    · obtain ⟨rfl, rfl⟩ := e
      rw [← hx, upd_s]
      exact hv
    · rw [upd_o (by omega)]
      exact h.1 s m hs h1 h2 (by omega)
  · rw [upd_o (by omega)]
    exact h.2 j hj
theorem xW_nx {w : Nat → Int32} {i : Nat} (h : xW w i 15) : xW w (i + 1) 1 := ⟨fun s m hs h1 h2 h3 => h.1 s m hs h1 h2 (by omega), h.2⟩
/-- what the tables say -/
theorem xR_v : ∀ s, s < 64 → ∀ t, t < 8 → (sE (tv_0.getD t 0) 7 (nI s) 0).toInt = fRc s t := by decide +kernel
theorem xH_v : ∀ s, s < 64 → ∀ t, t < 8 → (hI (nI s) 64 t).toInt = fHp s t := by decide +kernel
theorem xW_v : ∀ m, m < 15 → 1 ≤ m → ∀ s, s < 64 → woF (nI m) (nI s) = fWa (m * 64 + s) := by decide +kernel
/-- the kinds of a Board alone -/
noncomputable def bKK (a n : Nat) : Nat → Nat := fun p => if p = a then 26 else if p < n then 999 else if p < n + 11 then 27 + (p - n) else 999
theorem bKK_a {a n : Nat} : bKK a n a = 26 := if_pos rfl
theorem bKK_r {a n j : Nat} (ha : a < n) (hj : j < 11) : bKK a n (n + j) = 27 + j := by
  unfold bKK
  rw [if_neg (by omega), if_neg (by omega), if_pos (by omega)]
  omega
theorem bKK_d {a n p : Nat} (hp : p < n) (hne : p ≠ a) : bKK a n p = 999 := by
  unfold bKK
  rw [if_neg hne, if_pos hp]
theorem bKK_u {a n p j : Nat} (ha : a < n) (h : bKK a n p = 27 + j) (hj : j < 11) : p = n + j := by
  unfold bKK at h
  split at h
  · omega
  · split at h
    · omega
    · split at h <;> omega
noncomputable def zB (σ : Nat → jcell) (a n : Nat) : Prop := aH fa_T (bKK a n) (n + 11) σ ∧ fJX (bKK a n) (n + 11) σ ∧ fBf (bKK a n) (n + 11) σ a
noncomputable def zFB (a n : Nat) (F : Nat → Int32) (A : Nat → Nat → Int32) (L : Nat → Nat → Int64) : Prop := ∀ σ, zB (bdP σ a n F A L) a n
theorem xR_b : ∀ s, s < 64 → ∀ t, t < 8 → 0 ≤ (sE (tv_0.getD t 0) 7 (nI s) 0).toInt ∧ (sE (tv_0.getD t 0) 7 (nI s) 0).toInt ≤ 7 := by decide +kernel
theorem xH_b : ∀ s, s < 64 → ∀ t, t < 8 → -1 ≤ (hI (nI s) 64 t).toInt ∧ (hI (nI s) 64 t).toInt ≤ 63 := by decide +kernel
theorem bA_ok {σ : Nat → jcell} {a n : Nat} {gw gr gh : Nat → Int32} (ha : a < n) (hW : xW gw 64 1) (hR : xR gr 64 0) (hH : xH gh 64) : aH fa_T (bKK a n) (n + 11) (bdP σ a n (fun _ => 0) (bA gw gr gh) (fun _ _ => 0)) ∧ fJX (bKK a n) (n + 11) (bdP σ a n (fun _ => 0) (bA gw gr gh) (fun _ _ => 0)) := by
  have vW : ∀ j, 64 ≤ j → j < 960 → gw j = fWa j := fun j h1 h2 => by
    have e : j / 64 * 64 + j % 64 = j := by omega
    rw [← e, hW.1 (j % 64) (j / 64) (by omega) (by omega) (by omega) (Or.inl (by omega))]
    exact xW_v (j / 64) (by omega) (by omega) (j % 64) (by omega)
  have bW : ∀ j, j < 1024 → 0 ≤ (gw j).toInt ∧ (gw j).toInt ≤ 1000 := fun j hj => by
    by_cases h : 64 ≤ j ∧ j < 960
    · rw [vW j h.1 h.2]
      exact fWa_bd j
    · rw [hW.2 j (by omega)]
      exact ⟨by decide, by decide⟩
  have bR : ∀ j, j < 512 → 0 ≤ (gr j).toInt ∧ (gr j).toInt ≤ 7 := fun j hj => by
    have e : j / 8 * 8 + j % 8 = j := by omega
    rw [← e, hR (j / 8) (j % 8) (by omega) (Or.inl (by omega))]
    exact xR_b (j / 8) (by omega) (j % 8) (by omega)
  have bH : ∀ j, j < 512 → -1 ≤ (gh j).toInt ∧ (gh j).toInt ≤ 63 := fun j hj => by
    have e : j / 8 * 8 + j % 8 = j := by omega
    rw [← e, hH (j / 8) (j % 8) (by omega) (by omega)]
    exact xH_b (j / 8) (by omega) (j % 8) (by omega)
  refine ⟨fun p hp d hd => ?_, fun p hp hq => ?_, fun p hp hq => ?_, fun p hp hq => ?_, fun p hp hq => ?_⟩
  · have hz : ∀ q : Int × Int, q.1 ≤ 0 → 0 ≤ q.2 → aG (bKK a n) (n + 11) (.inl q) (.inl 0) := fun q h1 h2 => ⟨h1, h2⟩
    have hr : ∀ j, j < 11 → aG (bKK a n) (n + 11) (.inr (some (.inl (false, 27 + j)))) (.inr (.inr (some (.inl (n + j))))) := fun j hj => ⟨by omega, Or.inl (bKK_r ha hj)⟩
    by_cases e : p = a
    · subst e
      rw [bKK_a] at hd
      obtain rfl := Option.some.inj hd
      rw [bd_a]
      refine ⟨rfl, rfl, fun f t v ht hv => ?_⟩
      match f, ht, hv with
      | 0, ht, hv => cases ht; cases hv; exact hr 0 (by decide)
      | 1, ht, hv => cases ht; cases hv; exact hr 1 (by decide)
      | 2, ht, hv => cases ht; cases hv; exact hz _ (by decide) (by decide)
      | 3, ht, hv => cases ht; cases hv; exact hz _ (by decide) (by decide)
      | 4, ht, hv => cases ht; cases hv; exact hz _ (by decide) (by decide)
      | 5, ht, hv => cases ht; cases hv; exact hz _ (by decide) (by decide)
      | 6, ht, hv => cases ht; cases hv; exact hz _ (by decide) (by decide)
      | 7, ht, hv => cases ht; cases hv; exact hr 2 (by decide)
      | 8, ht, hv => cases ht; cases hv; exact hr 3 (by decide)
      | 9, ht, hv => cases ht; cases hv; exact hr 4 (by decide)
      | 10, ht, hv => cases ht; cases hv; exact hr 5 (by decide)
      | 11, ht, hv => cases ht; cases hv; exact hr 6 (by decide)
      | 12, ht, hv => cases ht; cases hv; exact hr 7 (by decide)
      | 13, ht, hv => cases ht; cases hv; exact hr 8 (by decide)
      | 14, ht, hv => cases ht; cases hv; exact hr 9 (by decide)
      | 15, ht, hv => cases ht; cases hv; exact hr 10 (by decide)
      | 16, ht, hv => cases ht; cases hv; exact hz _ (by decide) (by decide)
      | f + 17, ht, _ => cases ht
    · by_cases hn : p < n
      · rw [bKK_d hn e] at hd
        cases (show none = some d from hd)
      · obtain ⟨j, rfl⟩ := Nat.exists_eq_add_of_le (Nat.le_of_not_lt hn)
        rw [bKK_r ha (by omega)] at hd
        rw [bd_g ha (by omega)]
        match j, hp, hd with
        | 0, _, hd => obtain rfl := Option.some.inj hd; exact ⟨rfl, rfl, by decide, fun i _ => ⟨(show aIn _ 0 from ⟨by decide, by decide⟩), fun q hq => (by cases hq)⟩⟩
        | 1, _, hd => obtain rfl := Option.some.inj hd; exact ⟨rfl, rfl, by decide, fun i _ => ⟨(show aIn _ 0 from ⟨by decide, by decide⟩), fun q hq => (by cases hq)⟩⟩
        | 2, _, hd => obtain rfl := Option.some.inj hd; exact ⟨rfl, rfl, rfl⟩
        | 3, _, hd => obtain rfl := Option.some.inj hd; exact ⟨rfl, rfl, by decide, fun i _ => ⟨(show aIn _ 0 from ⟨by decide, by decide⟩), fun q hq => (by cases hq)⟩⟩
        | 4, _, hd => obtain rfl := Option.some.inj hd; exact ⟨rfl, rfl, by decide, fun i _ => ⟨(show aIn _ 0 from ⟨by decide, by decide⟩), fun q hq => (by cases hq)⟩⟩
        | 5, _, hd => obtain rfl := Option.some.inj hd; exact ⟨rfl, rfl, by decide, fun i _ => ⟨(show aIn _ 0 from ⟨by decide, by decide⟩), fun q hq => (by cases hq)⟩⟩
        | 6, _, hd => obtain rfl := Option.some.inj hd; exact ⟨rfl, rfl, by decide, fun i hi => ⟨bW i hi, fun q hq => (by cases hq)⟩⟩
        | 7, _, hd => obtain rfl := Option.some.inj hd; exact ⟨rfl, rfl, by decide, fun i hi => ⟨bR i hi, fun q hq => (by cases hq)⟩⟩
        | 8, _, hd => obtain rfl := Option.some.inj hd; exact ⟨rfl, rfl, by decide, fun i hi => ⟨bH i hi, fun q hq => (by cases hq)⟩⟩
        | 9, _, hd => obtain rfl := Option.some.inj hd; exact ⟨rfl, rfl, rfl⟩
        | 10, _, hd => obtain rfl := Option.some.inj hd; exact ⟨rfl, rfl, by decide, fun i _ => ⟨(show aIn _ 0 from ⟨by decide, by decide⟩), fun q hq => (by cases hq)⟩⟩
        | j + 11, hp, _ => omega
  · obtain rfl := bKK_u (j := 7) ha hq (by decide)
    exact ⟨gr, bd_r7 ha, fun s i hs hi => by rw [Nat.mul_comm 8 s, hR s i hi (Or.inl hs)]; exact xR_v s hs i hi⟩
  · obtain rfl := bKK_u (j := 8) ha hq (by decide)
    exact ⟨gh, bd_r8 ha, fun s i hs hi => by rw [Nat.mul_comm 8 s, hH s i hs hi]; exact xH_v s hs i hi⟩
  · have e : p = a := by
      unfold bKK at hq
      split at hq
      · assumption
      · split at hq
        · omega
        · first | omega | (split at hq <;> omega)
    subst e
    exact ⟨n, ha, Nat.le_refl _, fun j hj => bKK_r ha hj, _, bd_a, rfl, rfl, rfl, rfl, rfl, rfl, rfl, rfl, rfl, rfl, rfl⟩
  · obtain rfl := bKK_u (j := 6) ha hq (by decide)
    exact ⟨gw, bd_r6 ha, vW⟩
theorem zB_pl {σ : Nat → jcell} {a n p : Nat} {F : Nat → Int32} {A : Nat → Nat → Int32} {L : Nat → Nat → Int64} (ha : a < n) (hp : p < n + 11) (h : p = a ∨ n ≤ p) : zPl (bdP σ a n F A L p) := by
  rcases h with rfl | h
  · rw [bd_a]
    trivial
  · obtain ⟨j, rfl⟩ := Nat.exists_eq_add_of_le h
    rw [bd_g ha (by omega)]
    unfold bd_c
    cases bd_lg j <;> trivial
theorem fBf_gy {K K' : Nat → Nat} {n n' b : Nat} {σ σ' : Nat → jcell} (h : ∀ a, a < n → 25 ≤ K a → K a ≤ 51 → a < n' ∧ K' a = K a ∧ σ' a = σ a) (t : fBf K n σ b) : fBf K' n' σ' b := by
  obtain ⟨q, ⟨h1, h2, fs, r, g, h3, h4, h5, h6, h7, h8, h9, h10, h11, h12, rw, gw, h13, h14, h15, h16, h17⟩, hq⟩ := t
  obtain ⟨q1, q2, q3⟩ := h b h1 (by omega) (by omega)
  obtain ⟨r1, r2, r3⟩ := h r h5 (by omega) (by omega)
  obtain ⟨s1, s2, s3⟩ := h rw h14 (by omega) (by omega)
  exact ⟨q, ⟨q1, q2.trans h2, fs, r, g, q3.trans h3, h4, r1, r2.trans h6, r3.trans h7, h8, h9, h10, h11, h12, rw, gw, h13, s1, s2.trans h15, s3.trans h16, h17⟩, hq⟩
theorem bKK_own {a n p : Nat} (hp : p < n + 11) (h : bKK a n p < 999) : p = a ∨ n ≤ p := by
  by_cases e : p = a
  · exact Or.inl e
  · by_cases h9 : p < n
    · rw [bKK_d h9 e] at h
      omega
    · exact Or.inr (Nat.le_of_not_lt h9)
theorem zB_cg {σ σ' : Nat → jcell} {a n : Nat} (h : zB σ a n) (he : ∀ p, p < n + 11 → (p = a ∨ n ≤ p) → σ' p = σ p) : zB σ' a n := by
  obtain ⟨h1, h2, h3⟩ := h
  refine ⟨fun p hp d hd => ?_, fJX_eq h2 (fun p hp k1 k2 => he p hp (bKK_own hp (by omega))), fBf_gy (fun p hp k1 k2 => ⟨hp, rfl, he p hp (bKK_own hp (by omega))⟩) h3⟩
  have hk : bKK a n p < 115 := by
    have := (List.getElem?_eq_some_iff.mp hd).1
    rw [kT_len] at this
    exact this
  rw [he p hp (bKK_own hp (by omega))]
  exact h1 p hp d hd
theorem zB_pic {σ σ1 : Nat → jcell} {a n : Nat} (ha : a < n) (h : aH fa_T (bKK a n) (n + 11) σ1) (hd : ∀ p, p < n → p ≠ a → σ1 p = σ p) : ∃ F A L, ∀ p, p < n + 11 → σ1 p = bdP σ a n F A L p := by
  obtain ⟨fs, e1, e2, e3⟩ := aCe_obj (h a (by omega) _ (by rw [bKK_a]; rfl))
  have hl : fs.length = 17 := e2
  refine ⟨fun k => (match fs[k]? with
    | some (.inl x) => x
    | _ => 0), fun j => (match σ1 (n + j) with
    | .inl (_, _, .inl g) => g
    | _ => fun _ => 0), fun j => (match σ1 (n + j) with
    | .inl (_, _, .inr (.inl g)) => g
    | _ => fun _ => 0), fun p hp => ?_⟩
  by_cases e : p = a
  · subst e
    rw [bd_a, e1]
    congr 2
    apply List.ext_getElem?
    intro f
    have hg : ∀ f, f < 17 → fs[f]? = some (fs.getD f (.inl 0)) := fun f hf => by
      rw [List.getD, List.getElem?_eq_getElem (by omega)]
      rfl
    have hi : ∀ (f : Nat) (q : Int × Int), f < 17 → ([.inr (some (.inl (false, 27))), .inr (some (.inl (false, 28))), .inl (0, 1), .inl (0, 15), .inl (-1, 63), .inl (0, 2147483647), .inl (-2147483648, 2147483647), .inr (some (.inl (false, 29))), .inr (some (.inl (false, 30))), .inr (some (.inl (false, 31))), .inr (some (.inl (false, 32))), .inr (some (.inl (false, 33))), .inr (some (.inl (false, 34))), .inr (some (.inl (false, 35))), .inr (some (.inl (false, 36))), .inr (some (.inl (false, 37))), .inl (0, 320)] : List aT)[f]? = some (.inl q) → fs[f]? = some (.inl (match fs[f]? with
      | some (.inl x) => x
      | _ => 0)) := fun f q hf ht => by
      have h1 := hg f hf
      obtain ⟨x, hx, -⟩ := aG_int (e3 f _ _ ht h1)
      rw [h1, hx]
    have hr : ∀ (f j : Nat), f < 17 → j < 11 → ([.inr (some (.inl (false, 27))), .inr (some (.inl (false, 28))), .inl (0, 1), .inl (0, 15), .inl (-1, 63), .inl (0, 2147483647), .inl (-2147483648, 2147483647), .inr (some (.inl (false, 29))), .inr (some (.inl (false, 30))), .inr (some (.inl (false, 31))), .inr (some (.inl (false, 32))), .inr (some (.inl (false, 33))), .inr (some (.inl (false, 34))), .inr (some (.inl (false, 35))), .inr (some (.inl (false, 36))), .inr (some (.inl (false, 37))), .inl (0, 320)] : List aT)[f]? = some (.inr (some (.inl (false, 27 + j)))) → fs[f]? = some (.inr (.inr (some (.inl (n + j))))) := fun f j hf hj ht => by
      have h1 := hg f hf
      obtain ⟨b, hb, b1, b2⟩ := rG_ref (by omega) (e3 f _ _ ht h1)
      rw [h1, hb, bKK_u ha b2 hj]
    match f with
    | 0 => exact hr 0 0 (by decide) (by decide) rfl
    | 1 => exact hr 1 1 (by decide) (by decide) rfl
    | 2 => exact hi 2 _ (by decide) rfl
    | 3 => exact hi 3 _ (by decide) rfl
    | 4 => exact hi 4 _ (by decide) rfl
    | 5 => exact hi 5 _ (by decide) rfl
    | 6 => exact hi 6 _ (by decide) rfl
    | 7 => exact hr 7 2 (by decide) (by decide) rfl
    | 8 => exact hr 8 3 (by decide) (by decide) rfl
    | 9 => exact hr 9 4 (by decide) (by decide) rfl
    | 10 => exact hr 10 5 (by decide) (by decide) rfl
    | 11 => exact hr 11 6 (by decide) (by decide) rfl
    | 12 => exact hr 12 7 (by decide) (by decide) rfl
    | 13 => exact hr 13 8 (by decide) (by decide) rfl
    | 14 => exact hr 14 9 (by decide) (by decide) rfl
    | 15 => exact hr 15 10 (by decide) (by decide) rfl
    | 16 => exact hi 16 _ (by decide) rfl
    | f + 17 => exact List.getElem?_eq_none (by omega)
  · by_cases hn : p < n
    · rw [hd p hn e]
      unfold bdP
      rw [if_neg e, if_neg (by omega)]
    · obtain ⟨j, rfl⟩ := Nat.exists_eq_add_of_le (Nat.le_of_not_lt hn)
      rw [bd_g ha (by omega)]
      have hc : ∀ (q : FieldType × Nat × (Int × Int) × List (Nat × Nat × Int × Int × Int)) (c : jcell), ¬ q.1 = .long → aCe (bKK a n) (n + 11) (.inl q) c → c = .inl (q.1, q.2.1, .inl (match c with
        | .inl (_, _, .inl g) => g
        | _ => fun _ => 0)) := fun q c hl hc => by
        rcases c with ⟨t, m, g | g | g⟩ | y
        · rw [hc.1, hc.2.1]
        · exact absurd hc.2.2 hl
        · exact hc.elim
        · exact hc.elim
      have hcl : ∀ (q : FieldType × Nat × (Int × Int) × List (Nat × Nat × Int × Int × Int)) (c : jcell), q.1 = .long → aCe (bKK a n) (n + 11) (.inl q) c → c = .inl (.long, q.2.1, .inr (.inl (match c with
        | .inl (_, _, .inr (.inl g)) => g
        | _ => fun _ => 0))) := fun q c hl hc => by
        rcases c with ⟨t, m, g | g | g⟩ | y
        · exact absurd hl hc.2.2.1
        · rw [hc.1, hc.2.1, hl]
        · exact hc.elim
        · exact hc.elim
      match j, hp with
      | 0, hp => exact hc (.int, 64, (0, 15), []) _ (by decide) (h (n + 0) hp _ (by rw [bKK_r ha (by decide)]; rfl))
      | 1, hp => exact hc (.int, 2, (0, 63), []) _ (by decide) (h (n + 1) hp _ (by rw [bKK_r ha (by decide)]; rfl))
      | 2, hp => exact hcl (.long, 4, (0, 0), []) _ rfl (h (n + 2) hp _ (by rw [bKK_r ha (by decide)]; rfl))
      | 3, hp => exact hc (.int, 2, (-2147483648, 2147483647), []) _ (by decide) (h (n + 3) hp _ (by rw [bKK_r ha (by decide)]; rfl))
      | 4, hp => exact hc (.int, 16, (-2147483648, 2147483647), []) _ (by decide) (h (n + 4) hp _ (by rw [bKK_r ha (by decide)]; rfl))
      | 5, hp => exact hc (.int, 2, (-2147483648, 2147483647), []) _ (by decide) (h (n + 5) hp _ (by rw [bKK_r ha (by decide)]; rfl))
      | 6, hp => exact hc (.int, 1024, (0, 1000), []) _ (by decide) (h (n + 6) hp _ (by rw [bKK_r ha (by decide)]; rfl))
      | 7, hp => exact hc (.int, 512, (0, 7), []) _ (by decide) (h (n + 7) hp _ (by rw [bKK_r ha (by decide)]; rfl))
      | 8, hp => exact hc (.int, 512, (-1, 63), []) _ (by decide) (h (n + 8) hp _ (by rw [bKK_r ha (by decide)]; rfl))
      | 9, hp => exact hcl (.long, 1280, (0, 0), []) _ rfl (h (n + 9) hp _ (by rw [bKK_r ha (by decide)]; rfl))
      | 10, hp => exact hc (.int, 320, (-2147483648, 2147483647), []) _ (by decide) (h (n + 10) hp _ (by rw [bKK_r ha (by decide)]; rfl))
      | j + 11, hp => omega
section BOI
set_option maxRecDepth 100000 in
set_option maxHeartbeats 4000000 in
theorem cx_BO_init (l : Launch) (E : jE) (σ : Nat → jcell) (n : Nat) (a : Nat) (ha : a < n) (h : σ a = .inr (10, [.inr (.inr none), .inr (.inr none), .inl 0, .inl 0, .inl 0, .inl 0, .inl 0, .inr (.inr none), .inr (.inr none), .inr (.inr none), .inr (.inr none), .inr (.inr none), .inr (.inr none), .inr (.inr none), .inr (.inr none), .inr (.inr none), .inl 0])) (hpl : ∀ p, p < n → zPl (σ p)) : jMet l E jcl jtb lw_tbl y_BO_init { frames := 3, cells := 11, slots := 3738, locals := 120 } [.inr (.inr (some (.inl (a))))] σ n (fun r σ' n' => ∃ (F : Nat → Int32) (A : Nat → Nat → Int32) (L : Nat → Nat → Int64), r = none ∧ n' = n + 11 ∧ (∀ p, p < n + 11 → σ' p = bdP σ a n F A L p) ∧ zFB a n F A L) := by
  refine jMet_of (hY := rfl) true (fun h => rfl) (by decide) (Nat.le_of_ble_eq_true rfl) [some (.inr (.inr (some (.inl (a))))), none, none] rfl ?_
  intro M hl hR X hr
  have hak : ∀ k, (a < n + k) = True := fun k => eq_true (by omega)
  have hak0 : (a < n) = True := eq_true ha
  refine jmk_in h ?_
  refine jrun_ok jC X k_BO_init_0 0 _ _ _ o_BO_init_0 ?_
  simp only [k_BO_init_0, jrun, jstep, jldi, jldl, jlda, j1, j2, jl1, jl2, jli, ja1, jbr, jald, jast, jlald, jlast, jalen, jget, jput, jfit, jdup, jdupx, jdupx2, jdup2, jcat, jset1, jset2, jkill, List.getElem?_cons_zero, List.getElem?_cons_succ, List.set_cons_zero, List.set_cons_succ, List.length_cons, List.length_nil, Nat.reduceAdd, Nat.reduceLT, Int32.reduceToNatClampNeg, true_and, and_true, and_self, reduceCtorEq, not_false_eq_true, false_and, and_false, or_false, false_or, true_or, or_true, jmk_a, jmk_put, hak, hak0]
  refine jk_oi X hR (w1 := 618) (w2 := 340) (w3 := 341) d_BO_init_1 (by decide +kernel) (by decide +kernel) (by decide +kernel) (Nat.le_of_ble_eq_true rfl) (Nat.le_of_ble_eq_true rfl) (pc' := 4) rfl ?_
  refine jrun_ok jC X k_BO_init_4 4 _ _ _ o_BO_init_4 ?_
  simp only [k_BO_init_4, jrun, jstep, jldi, jldl, jlda, j1, j2, jl1, jl2, jli, ja1, jbr, jald, jast, jlald, jlast, jalen, jget, jput, jfit, jdup, jdupx, jdupx2, jdup2, jcat, jset1, jset2, jkill, List.getElem?_cons_zero, List.getElem?_cons_succ, List.set_cons_zero, List.set_cons_succ, List.length_cons, List.length_nil, Nat.reduceAdd, Nat.reduceLT, Int32.reduceToNatClampNeg, true_and, and_true, and_self, reduceCtorEq, not_false_eq_true, false_and, and_false, or_false, false_or, true_or, or_true, jmk_a, jmk_put, hak, hak0]
  refine jc_na X hR (w1 := 387) d_BO_init_7 rfl (by decide +kernel) (by decide) (by decide) 64 (by decide) (by decide) rfl [.inl (.int, 64, .inl fun _ => 0)] ha rfl rfl (n' := n + 1) rfl (c' := 1) rfl (s' := 64) rfl ⟨Nat.le_of_ble_eq_true rfl, Nat.le_of_ble_eq_true rfl⟩ (pc' := 9) rfl ?_
  refine jrun_ok jC X k_BO_init_9 9 _ _ _ o_BO_init_9 ?_
  simp only [k_BO_init_9, jrun, jstep, jldi, jldl, jlda, j1, j2, jl1, jl2, jli, ja1, jbr, jald, jast, jlald, jlast, jalen, jget, jput, jfit, jdup, jdupx, jdupx2, jdup2, jcat, jset1, jset2, jkill, List.getElem?_cons_zero, List.getElem?_cons_succ, List.set_cons_zero, List.set_cons_succ, List.length_cons, List.length_nil, Nat.reduceAdd, Nat.reduceLT, Int32.reduceToNatClampNeg, true_and, and_true, and_self, reduceCtorEq, not_false_eq_true, false_and, and_false, or_false, false_or, true_or, or_true, jmk_a, jmk_put, hak, hak0]
  refine jc_na X hR (w1 := 387) d_BO_init_14 rfl (by decide +kernel) (by decide) (by decide) 2 (by decide) (by decide) rfl [.inl (.int, 64, .inl fun _ => 0), .inl (.int, 2, .inl fun _ => 0)] ha rfl rfl (n' := n + 2) rfl (c' := 2) rfl (s' := 66) rfl ⟨Nat.le_of_ble_eq_true rfl, Nat.le_of_ble_eq_true rfl⟩ (pc' := 16) rfl ?_
  refine jrun_ok jC X k_BO_init_16 16 _ _ _ o_BO_init_16 ?_
  simp only [k_BO_init_16, jrun, jstep, jldi, jldl, jlda, j1, j2, jl1, jl2, jli, ja1, jbr, jald, jast, jlald, jlast, jalen, jget, jput, jfit, jdup, jdupx, jdupx2, jdup2, jcat, jset1, jset2, jkill, List.getElem?_cons_zero, List.getElem?_cons_succ, List.set_cons_zero, List.set_cons_succ, List.length_cons, List.length_nil, Nat.reduceAdd, Nat.reduceLT, Int32.reduceToNatClampNeg, true_and, and_true, and_self, reduceCtorEq, not_false_eq_true, false_and, and_false, or_false, false_or, true_or, or_true, jmk_a, jmk_put, hak, hak0]
  refine jc_na X hR (w1 := 524) d_BO_init_21 rfl (by decide +kernel) (by decide) (by decide) 4 (by decide) (by decide) rfl [.inl (.int, 64, .inl fun _ => 0), .inl (.int, 2, .inl fun _ => 0), .inl (.long, 4, .inr (.inl fun _ => 0))] ha rfl rfl (n' := n + 3) rfl (c' := 3) rfl (s' := 70) rfl ⟨Nat.le_of_ble_eq_true rfl, Nat.le_of_ble_eq_true rfl⟩ (pc' := 23) rfl ?_
  refine jrun_ok jC X k_BO_init_23 23 _ _ _ o_BO_init_23 ?_
  simp only [k_BO_init_23, jrun, jstep, jldi, jldl, jlda, j1, j2, jl1, jl2, jli, ja1, jbr, jald, jast, jlald, jlast, jalen, jget, jput, jfit, jdup, jdupx, jdupx2, jdup2, jcat, jset1, jset2, jkill, List.getElem?_cons_zero, List.getElem?_cons_succ, List.set_cons_zero, List.set_cons_succ, List.length_cons, List.length_nil, Nat.reduceAdd, Nat.reduceLT, Int32.reduceToNatClampNeg, true_and, and_true, and_self, reduceCtorEq, not_false_eq_true, false_and, and_false, or_false, false_or, true_or, or_true, jmk_a, jmk_put, hak, hak0]
  refine jc_na X hR (w1 := 387) d_BO_init_28 rfl (by decide +kernel) (by decide) (by decide) 2 (by decide) (by decide) rfl [.inl (.int, 64, .inl fun _ => 0), .inl (.int, 2, .inl fun _ => 0), .inl (.long, 4, .inr (.inl fun _ => 0)), .inl (.int, 2, .inl fun _ => 0)] ha rfl rfl (n' := n + 4) rfl (c' := 4) rfl (s' := 72) rfl ⟨Nat.le_of_ble_eq_true rfl, Nat.le_of_ble_eq_true rfl⟩ (pc' := 30) rfl ?_
  refine jrun_ok jC X k_BO_init_30 30 _ _ _ o_BO_init_30 ?_
  simp only [k_BO_init_30, jrun, jstep, jldi, jldl, jlda, j1, j2, jl1, jl2, jli, ja1, jbr, jald, jast, jlald, jlast, jalen, jget, jput, jfit, jdup, jdupx, jdupx2, jdup2, jcat, jset1, jset2, jkill, List.getElem?_cons_zero, List.getElem?_cons_succ, List.set_cons_zero, List.set_cons_succ, List.length_cons, List.length_nil, Nat.reduceAdd, Nat.reduceLT, Int32.reduceToNatClampNeg, true_and, and_true, and_self, reduceCtorEq, not_false_eq_true, false_and, and_false, or_false, false_or, true_or, or_true, jmk_a, jmk_put, hak, hak0]
  refine jc_na X hR (w1 := 387) d_BO_init_36 rfl (by decide +kernel) (by decide) (by decide) 16 (by decide) (by decide) rfl [.inl (.int, 64, .inl fun _ => 0), .inl (.int, 2, .inl fun _ => 0), .inl (.long, 4, .inr (.inl fun _ => 0)), .inl (.int, 2, .inl fun _ => 0), .inl (.int, 16, .inl fun _ => 0)] ha rfl rfl (n' := n + 5) rfl (c' := 5) rfl (s' := 88) rfl ⟨Nat.le_of_ble_eq_true rfl, Nat.le_of_ble_eq_true rfl⟩ (pc' := 38) rfl ?_
  refine jrun_ok jC X k_BO_init_38 38 _ _ _ o_BO_init_38 ?_
  simp only [k_BO_init_38, jrun, jstep, jldi, jldl, jlda, j1, j2, jl1, jl2, jli, ja1, jbr, jald, jast, jlald, jlast, jalen, jget, jput, jfit, jdup, jdupx, jdupx2, jdup2, jcat, jset1, jset2, jkill, List.getElem?_cons_zero, List.getElem?_cons_succ, List.set_cons_zero, List.set_cons_succ, List.length_cons, List.length_nil, Nat.reduceAdd, Nat.reduceLT, Int32.reduceToNatClampNeg, true_and, and_true, and_self, reduceCtorEq, not_false_eq_true, false_and, and_false, or_false, false_or, true_or, or_true, jmk_a, jmk_put, hak, hak0]
  refine jc_na X hR (w1 := 387) d_BO_init_43 rfl (by decide +kernel) (by decide) (by decide) 2 (by decide) (by decide) rfl [.inl (.int, 64, .inl fun _ => 0), .inl (.int, 2, .inl fun _ => 0), .inl (.long, 4, .inr (.inl fun _ => 0)), .inl (.int, 2, .inl fun _ => 0), .inl (.int, 16, .inl fun _ => 0), .inl (.int, 2, .inl fun _ => 0)] ha rfl rfl (n' := n + 6) rfl (c' := 6) rfl (s' := 90) rfl ⟨Nat.le_of_ble_eq_true rfl, Nat.le_of_ble_eq_true rfl⟩ (pc' := 45) rfl ?_
  refine jrun_ok jC X k_BO_init_45 45 _ _ _ o_BO_init_45 ?_
  simp only [k_BO_init_45, jrun, jstep, jldi, jldl, jlda, j1, j2, jl1, jl2, jli, ja1, jbr, jald, jast, jlald, jlast, jalen, jget, jput, jfit, jdup, jdupx, jdupx2, jdup2, jcat, jset1, jset2, jkill, List.getElem?_cons_zero, List.getElem?_cons_succ, List.set_cons_zero, List.set_cons_succ, List.length_cons, List.length_nil, Nat.reduceAdd, Nat.reduceLT, Int32.reduceToNatClampNeg, true_and, and_true, and_self, reduceCtorEq, not_false_eq_true, false_and, and_false, or_false, false_or, true_or, or_true, jmk_a, jmk_put, hak, hak0]
  refine jc_na X hR (w1 := 387) d_BO_init_52 rfl (by decide +kernel) (by decide) (by decide) 1024 (by decide) (by decide) rfl [.inl (.int, 64, .inl fun _ => 0), .inl (.int, 2, .inl fun _ => 0), .inl (.long, 4, .inr (.inl fun _ => 0)), .inl (.int, 2, .inl fun _ => 0), .inl (.int, 16, .inl fun _ => 0), .inl (.int, 2, .inl fun _ => 0), .inl (.int, 1024, .inl fun _ => 0)] ha rfl rfl (n' := n + 7) rfl (c' := 7) rfl (s' := 1114) rfl ⟨Nat.le_of_ble_eq_true rfl, Nat.le_of_ble_eq_true rfl⟩ (pc' := 54) rfl ?_
  refine jrun_ok jC X k_BO_init_54 54 _ _ _ o_BO_init_54 ?_
  simp only [k_BO_init_54, jrun, jstep, jldi, jldl, jlda, j1, j2, jl1, jl2, jli, ja1, jbr, jald, jast, jlald, jlast, jalen, jget, jput, jfit, jdup, jdupx, jdupx2, jdup2, jcat, jset1, jset2, jkill, List.getElem?_cons_zero, List.getElem?_cons_succ, List.set_cons_zero, List.set_cons_succ, List.length_cons, List.length_nil, Nat.reduceAdd, Nat.reduceLT, Int32.reduceToNatClampNeg, true_and, and_true, and_self, reduceCtorEq, not_false_eq_true, false_and, and_false, or_false, false_or, true_or, or_true, jmk_a, jmk_put, hak, hak0]
  refine jc_na X hR (w1 := 387) d_BO_init_61 rfl (by decide +kernel) (by decide) (by decide) 512 (by decide) (by decide) rfl [.inl (.int, 64, .inl fun _ => 0), .inl (.int, 2, .inl fun _ => 0), .inl (.long, 4, .inr (.inl fun _ => 0)), .inl (.int, 2, .inl fun _ => 0), .inl (.int, 16, .inl fun _ => 0), .inl (.int, 2, .inl fun _ => 0), .inl (.int, 1024, .inl fun _ => 0), .inl (.int, 512, .inl fun _ => 0)] ha rfl rfl (n' := n + 8) rfl (c' := 8) rfl (s' := 1626) rfl ⟨Nat.le_of_ble_eq_true rfl, Nat.le_of_ble_eq_true rfl⟩ (pc' := 63) rfl ?_
  refine jrun_ok jC X k_BO_init_63 63 _ _ _ o_BO_init_63 ?_
  simp only [k_BO_init_63, jrun, jstep, jldi, jldl, jlda, j1, j2, jl1, jl2, jli, ja1, jbr, jald, jast, jlald, jlast, jalen, jget, jput, jfit, jdup, jdupx, jdupx2, jdup2, jcat, jset1, jset2, jkill, List.getElem?_cons_zero, List.getElem?_cons_succ, List.set_cons_zero, List.set_cons_succ, List.length_cons, List.length_nil, Nat.reduceAdd, Nat.reduceLT, Int32.reduceToNatClampNeg, true_and, and_true, and_self, reduceCtorEq, not_false_eq_true, false_and, and_false, or_false, false_or, true_or, or_true, jmk_a, jmk_put, hak, hak0]
  refine jc_na X hR (w1 := 387) d_BO_init_70 rfl (by decide +kernel) (by decide) (by decide) 512 (by decide) (by decide) rfl [.inl (.int, 64, .inl fun _ => 0), .inl (.int, 2, .inl fun _ => 0), .inl (.long, 4, .inr (.inl fun _ => 0)), .inl (.int, 2, .inl fun _ => 0), .inl (.int, 16, .inl fun _ => 0), .inl (.int, 2, .inl fun _ => 0), .inl (.int, 1024, .inl fun _ => 0), .inl (.int, 512, .inl fun _ => 0), .inl (.int, 512, .inl fun _ => 0)] ha rfl rfl (n' := n + 9) rfl (c' := 9) rfl (s' := 2138) rfl ⟨Nat.le_of_ble_eq_true rfl, Nat.le_of_ble_eq_true rfl⟩ (pc' := 72) rfl ?_
  refine jrun_ok jC X k_BO_init_72 72 _ _ _ o_BO_init_72 ?_
  simp only [k_BO_init_72, jrun, jstep, jldi, jldl, jlda, j1, j2, jl1, jl2, jli, ja1, jbr, jald, jast, jlald, jlast, jalen, jget, jput, jfit, jdup, jdupx, jdupx2, jdup2, jcat, jset1, jset2, jkill, List.getElem?_cons_zero, List.getElem?_cons_succ, List.set_cons_zero, List.set_cons_succ, List.length_cons, List.length_nil, Nat.reduceAdd, Nat.reduceLT, Int32.reduceToNatClampNeg, true_and, and_true, and_self, reduceCtorEq, not_false_eq_true, false_and, and_false, or_false, false_or, true_or, or_true, jmk_a, jmk_put, hak, hak0]
  refine jc_na X hR (w1 := 524) d_BO_init_79 rfl (by decide +kernel) (by decide) (by decide) 1280 (by decide) (by decide) rfl [.inl (.int, 64, .inl fun _ => 0), .inl (.int, 2, .inl fun _ => 0), .inl (.long, 4, .inr (.inl fun _ => 0)), .inl (.int, 2, .inl fun _ => 0), .inl (.int, 16, .inl fun _ => 0), .inl (.int, 2, .inl fun _ => 0), .inl (.int, 1024, .inl fun _ => 0), .inl (.int, 512, .inl fun _ => 0), .inl (.int, 512, .inl fun _ => 0), .inl (.long, 1280, .inr (.inl fun _ => 0))] ha rfl rfl (n' := n + 10) rfl (c' := 10) rfl (s' := 3418) rfl ⟨Nat.le_of_ble_eq_true rfl, Nat.le_of_ble_eq_true rfl⟩ (pc' := 81) rfl ?_
  refine jrun_ok jC X k_BO_init_81 81 _ _ _ o_BO_init_81 ?_
  simp only [k_BO_init_81, jrun, jstep, jldi, jldl, jlda, j1, j2, jl1, jl2, jli, ja1, jbr, jald, jast, jlald, jlast, jalen, jget, jput, jfit, jdup, jdupx, jdupx2, jdup2, jcat, jset1, jset2, jkill, List.getElem?_cons_zero, List.getElem?_cons_succ, List.set_cons_zero, List.set_cons_succ, List.length_cons, List.length_nil, Nat.reduceAdd, Nat.reduceLT, Int32.reduceToNatClampNeg, true_and, and_true, and_self, reduceCtorEq, not_false_eq_true, false_and, and_false, or_false, false_or, true_or, or_true, jmk_a, jmk_put, hak, hak0]
  refine jc_na X hR (w1 := 387) d_BO_init_88 rfl (by decide +kernel) (by decide) (by decide) 320 (by decide) (by decide) rfl [.inl (.int, 64, .inl fun _ => 0), .inl (.int, 2, .inl fun _ => 0), .inl (.long, 4, .inr (.inl fun _ => 0)), .inl (.int, 2, .inl fun _ => 0), .inl (.int, 16, .inl fun _ => 0), .inl (.int, 2, .inl fun _ => 0), .inl (.int, 1024, .inl fun _ => 0), .inl (.int, 512, .inl fun _ => 0), .inl (.int, 512, .inl fun _ => 0), .inl (.long, 1280, .inr (.inl fun _ => 0)), .inl (.int, 320, .inl fun _ => 0)] ha rfl rfl (n' := n + 11) rfl (c' := 11) rfl (s' := 3738) rfl ⟨Nat.le_of_ble_eq_true rfl, Nat.le_of_ble_eq_true rfl⟩ (pc' := 90) rfl ?_
  show jJ E jcl 3 M _ (n + 11) 11 (3738) 90 [some (.inr (.inr (some (.inl (a))))), none, none] [.inr (.inr (some (.inl (n + 10)))), .inr (.inr (some (.inl (a))))] (jmk σ a n (.inr (10, [.inr (.inr (some (.inl n))), .inr (.inr (some (.inl (n + 1)))), .inl 0, .inl 0, .inl 0, .inl 0, .inl 0, .inr (.inr (some (.inl (n + 2)))), .inr (.inr (some (.inl (n + 3)))), .inr (.inr (some (.inl (n + 4)))), .inr (.inr (some (.inl (n + 5)))), .inr (.inr (some (.inl (n + 6)))), .inr (.inr (some (.inl (n + 7)))), .inr (.inr (some (.inl (n + 8)))), .inr (.inr (some (.inl (n + 9)))), .inr (.inr none), .inl 0])) [.inl (.int, 64, .inl fun _ => 0), .inl (.int, 2, .inl fun _ => 0), .inl (.long, 4, .inr (.inl fun _ => 0)), .inl (.int, 2, .inl fun _ => 0), .inl (.int, 16, .inl fun _ => 0), .inl (.int, 2, .inl fun _ => 0), .inl (.int, 1024, .inl fun _ => 0), .inl (.int, 512, .inl fun _ => 0), .inl (.int, 512, .inl fun _ => 0), .inl (.long, 1280, .inr (.inl fun _ => 0)), .inl (.int, 320, .inl fun _ => 0)])
  refine jrun_ok jC X k_BO_init_90 90 _ _ _ o_BO_init_90 ?_
  simp only [k_BO_init_90, jrun, jstep, jldi, jldl, jlda, j1, j2, jl1, jl2, jli, ja1, jbr, jald, jast, jlald, jlast, jalen, jget, jput, jfit, jdup, jdupx, jdupx2, jdup2, jcat, jset1, jset2, jkill, List.getElem?_cons_zero, List.getElem?_cons_succ, List.set_cons_zero, List.set_cons_succ, List.length_cons, List.length_nil, Nat.reduceAdd, Nat.reduceLT, Int32.reduceToNatClampNeg, true_and, and_true, and_self, reduceCtorEq, not_false_eq_true, false_and, and_false, or_false, false_or, true_or, or_true, jmk_a, jmk_put, hak, hak0]
  have hb0 : (n < n + 11) = True := eq_true (by omega)
  have hb1 : (n + 1 < n + 11) = True := eq_true (by omega)
  have hb2 : (n + 2 < n + 11) = True := eq_true (by omega)
  have hb3 : (n + 3 < n + 11) = True := eq_true (by omega)
  have hb4 : (n + 4 < n + 11) = True := eq_true (by omega)
  have hb5 : (n + 5 < n + 11) = True := eq_true (by omega)
  have hb6 : (n + 6 < n + 11) = True := eq_true (by omega)
  have hb7 : (n + 7 < n + 11) = True := eq_true (by omega)
  have hb8 : (n + 8 < n + 11) = True := eq_true (by omega)
  have hb9 : (n + 9 < n + 11) = True := eq_true (by omega)
  have hb10 : (n + 10 < n + 11) = True := eq_true (by omega)
  have haa : (a < n + 11) = True := eq_true (by omega)
  have hab : a < n := ha
  have houter : ∀ (u i : Nat) (gw gr gh : Nat → Int32) (o2 : Option jv), i + u = 64 → xW gw i 1 → xR gr i 0 → xH gh i → jJ E jcl 3 M (jQ E jcl M (fun r σ' n' => ∃ (F : Nat → Int32) (A : Nat → Nat → Int32) (L : Nat → Nat → Int64), r = none ∧ n' = n + 11 ∧ (∀ p, p < n + 11 → σ' p = bdP σ a n F A L p) ∧ zFB a n F A L) 11 3738) (n + 11) 11 3738 95 [some (.inr (.inr (some (.inl (a))))), some (.inl (nI i)), o2] [] (bdP σ a n (fun _ => 0) (bA gw gr gh) (fun _ _ => 0)) := by
    intro u
    induction u with
    | zero =>
      intro i gw gr gh o2 hi hgw hgr hgh
      obtain rfl : i = 64 := by omega
      refine jrun_ok jC X k_BO_init_95 95 _ _ _ o_BO_init_95 ?_
      simp only [k_BO_init_95, jrun, jstep, jldi, jldl, jlda, j1, j2, jl1, jl2, jli, ja1, jbr, jald, jast, jlald, jlast, jalen, jget, jput, jfit, jdup, jdupx, jdupx2, jdup2, jcat, jset1, jset2, jkill, List.getElem?_cons_zero, List.getElem?_cons_succ, List.set_cons_zero, List.set_cons_succ, List.length_cons, List.length_nil, Nat.reduceAdd, Nat.reduceLT, Int32.reduceToNatClampNeg, true_and, and_true, and_self, reduceCtorEq, not_false_eq_true, false_and, and_false, or_false, false_or, true_or, or_true, bd_a, bd_ua, bd_l, vp_nar_int32, haa, bd_r0 hab, bd_u0 hab, hb0, bd_r1 hab, bd_u1 hab, hb1, bd_r2 hab, bd_u2 hab, hb2, bd_r3 hab, bd_u3 hab, hb3, bd_r4 hab, bd_u4 hab, hb4, bd_r5 hab, bd_u5 hab, hb5, bd_r6 hab, bd_u6 hab, hb6, bd_r7 hab, bd_u7 hab, hb7, bd_r8 hab, bd_u8 hab, hb8, bd_r9 hab, bd_u9 hab, hb9, bd_r10 hab, bd_u10 hab, hb10, bd_f0, bd_f1, bd_f2, bd_f3, bd_f4, bd_f5, bd_f6, bd_f7, bd_f8, bd_f9, bd_f10, bd_f11, bd_f12, bd_f13, bd_f14, bd_f15, bd_f16, bd_s2, bd_s3, bd_s4, bd_s5, bd_s6, bd_s16, bA_6, bA_7, bA_8, bA_u6, bA_u7, bA_u8, bA_6, bA_7, bA_8, bA_u6, bA_u7, bA_u8]
      refine ⟨fun _ => ?_, fun h => absurd (by decide) h⟩
      refine jrun_ok jC X k_BO_init_176 176 _ _ _ o_BO_init_176 ?_
      simp only [k_BO_init_176, jrun, jstep, jldi, jldl, jlda, j1, j2, jl1, jl2, jli, ja1, jbr, jald, jast, jlald, jlast, jalen, jget, jput, jfit, jdup, jdupx, jdupx2, jdup2, jcat, jset1, jset2, jkill, List.getElem?_cons_zero, List.getElem?_cons_succ, List.set_cons_zero, List.set_cons_succ, List.length_cons, List.length_nil, Nat.reduceAdd, Nat.reduceLT, Int32.reduceToNatClampNeg, true_and, and_true, and_self, reduceCtorEq, not_false_eq_true, false_and, and_false, or_false, false_or, true_or, or_true]
      obtain ⟨zH, zX⟩ := bA_ok (σ := σ) ha hgw hgr hgh
      have hz : ∀ p, p < n + 11 → zPl (bdP σ a n (fun _ => 0) (bA gw gr gh) (fun _ _ => 0) p) := fun p hp => by
        by_cases e : p < n ∧ p ≠ a
        · unfold bdP
          rw [if_neg e.2, if_neg (by omega)]
          exact hpl p e.1
        · exact zB_pl ha hp (by omega)
      have hM := zc_BOsetFirstF (l := M.2.1) (E := E) (bKK a n) (n + 11) bP0 _ [.inr (.inr (some (.inl a)))] zH zX ⟨rfl, fun i e v he hv => by
        match i, he, hv with
        | 0, he, hv => cases he; cases hv; exact ⟨⟨by omega, Or.inl bKK_a⟩, trivial⟩
        | i + 1, he, _ => cases he⟩ ⟨fun q hq => (by cases hq), fun q hq => (by cases hq), fun q hq => (by cases hq), fun q hq => (by cases hq)⟩
      refine jk_Vg X hR d_BO_init_177 q_BO_init_177 m_BO_setFirst i_BO_setFirst e_BO_setFirst (ci := 10) rfl rfl (by omega) bd_a hM rfl rfl ⟨Nat.le_of_ble_eq_true rfl, Nat.le_of_ble_eq_true rfl⟩ (c' := 11) rfl (s' := 3738) rfl ⟨Nat.le_of_ble_eq_true rfl, Nat.le_of_ble_eq_true rfl⟩ (Nat.le_of_ble_eq_true rfl) (pc' := 180) rfl ?_
      rintro r σ2 n2 hp
      obtain ⟨rfl, p1, p2, p3, p4, p5, xs, -, p7, -⟩ := hp
      obtain rfl : r = none := by
        cases r with
        | none => rfl
        | some v => cases p5
      obtain ⟨vs, v1, v2⟩ := p7.2.2.2 (2033, [0]) (List.mem_of_getElem? (i := 0) rfl)
      obtain rfl : [fR a] = vs := Option.some.inj v1
      have hb : fC0 (bKK a n) (n + 11) 127 [fR a] σ2 := (fF_b (r := 2033) (by decide) rfl).mp v2
      obtain ⟨b9, v9, hbf⟩ := hb
      cases v9
      have hdd : ∀ p, p < n → p ≠ a → σ2 p = σ p := fun p hp hne => by
        have e0 : bdP σ a n (fun _ => 0) (bA gw gr gh) (fun _ _ => 0) p = σ p := by
          unfold bdP
          rw [if_neg hne, if_neg (by omega)]
        rw [← e0]
        refine zPl_eq p3 p4 (by omega) (hz p (by omega)) (fun q hq e => ?_) (fun q hq e => ?_)
        · rw [bKK_d hp hne] at e
          exact absurd (List.all_eq_true.mp (show ag_BOsetFirstF.2.2.2.2.2.1.1.all (fun q => !Nat.beq q.1 999) = true by decide +kernel) q hq) (by rw [e]; decide)
        · rw [bKK_d hp hne] at e
          exact absurd (List.all_eq_true.mp (show ag_BOsetFirstF.2.2.2.2.2.1.2.all (fun q => !Nat.beq q.1 999) = true by decide +kernel) q hq) (by rw [e]; decide)
      obtain ⟨F2, A2, L2, hP⟩ := zB_pic (σ := σ) ha p1 hdd
      simp only [Option.toList_none, List.nil_append]
      refine jk_vret X d_BO_init_180 hr (Nat.le_refl _) (Nat.le_refl _) ⟨F2, A2, L2, rfl, rfl, hP, fun σ3 => zB_cg (σ := σ2) ⟨p1, p2, hbf⟩ (fun p hp hq => ?_)⟩
      rw [hP p hp]
      unfold bdP
      rcases hq with rfl | hq
      · rw [if_pos rfl, if_pos rfl]
      · have e1 : ¬ p = a := by omega
        rw [if_neg e1, if_neg e1, if_pos (And.intro hq hp), if_pos (And.intro hq hp)]
    | succ u ih =>
      intro i gw gr gh o2 hi hgw hgr hgh
      have hge : ¬ (64 : Int32) ≤ nI i := by
        rw [show (64 : Int32) = nI 64 from rfl, nI_leI (by omega) (by omega)]; omega
      have e8 : nI i * 8 = nI (i * 8) := by rw [show (8 : Int32) = nI 8 from rfl, pk_mul]
      have hin2 : ∀ (w k : Nat) (gw gr gh : Nat → Int32), k + w = 15 → 1 ≤ k → xW gw i k → xR gr (i + 1) 0 → xH gh (i + 1) → jJ E jcl 3 M (jQ E jcl M (fun r σ' n' => ∃ (F : Nat → Int32) (A : Nat → Nat → Int32) (L : Nat → Nat → Int64), r = none ∧ n' = n + 11 ∧ (∀ p, p < n + 11 → σ' p = bdP σ a n F A L p) ∧ zFB a n F A L) 11 3738) (n + 11) 11 3738 142 [some (.inr (.inr (some (.inl (a))))), some (.inl (nI i)), some (.inl (nI k))] [] (bdP σ a n (fun _ => 0) (bA gw gr gh) (fun _ _ => 0)) := by
        intro w
        induction w with
        | zero =>
          intro k gw gr gh hk hk1 hgw hgr hgh
          obtain rfl : k = 15 := by omega
          refine jrun_ok jC X k_BO_init_142 142 _ _ _ o_BO_init_142 ?_
          simp only [k_BO_init_142, jrun, jstep, jldi, jldl, jlda, j1, j2, jl1, jl2, jli, ja1, jbr, jald, jast, jlald, jlast, jalen, jget, jput, jfit, jdup, jdupx, jdupx2, jdup2, jcat, jset1, jset2, jkill, List.getElem?_cons_zero, List.getElem?_cons_succ, List.set_cons_zero, List.set_cons_succ, List.length_cons, List.length_nil, Nat.reduceAdd, Nat.reduceLT, Int32.reduceToNatClampNeg, true_and, and_true, and_self, reduceCtorEq, not_false_eq_true, false_and, and_false, or_false, false_or, true_or, or_true, bd_a, bd_ua, bd_l, vp_nar_int32, haa, bd_r0 hab, bd_u0 hab, hb0, bd_r1 hab, bd_u1 hab, hb1, bd_r2 hab, bd_u2 hab, hb2, bd_r3 hab, bd_u3 hab, hb3, bd_r4 hab, bd_u4 hab, hb4, bd_r5 hab, bd_u5 hab, hb5, bd_r6 hab, bd_u6 hab, hb6, bd_r7 hab, bd_u7 hab, hb7, bd_r8 hab, bd_u8 hab, hb8, bd_r9 hab, bd_u9 hab, hb9, bd_r10 hab, bd_u10 hab, hb10, bd_f0, bd_f1, bd_f2, bd_f3, bd_f4, bd_f5, bd_f6, bd_f7, bd_f8, bd_f9, bd_f10, bd_f11, bd_f12, bd_f13, bd_f14, bd_f15, bd_f16, bd_s2, bd_s3, bd_s4, bd_s5, bd_s6, bd_s16, bA_6, bA_7, bA_8, bA_u6, bA_u7, bA_u8, bA_6, bA_7, bA_8, bA_u6, bA_u7, bA_u8]
          refine ⟨fun _ => ?_, fun h => absurd (by decide) h⟩
          refine jrun_ok jC X k_BO_init_170 170 _ _ _ o_BO_init_170 ?_
          simp only [k_BO_init_170, jrun, jstep, jldi, jldl, jlda, j1, j2, jl1, jl2, jli, ja1, jbr, jald, jast, jlald, jlast, jalen, jget, jput, jfit, jdup, jdupx, jdupx2, jdup2, jcat, jset1, jset2, jkill, List.getElem?_cons_zero, List.getElem?_cons_succ, List.set_cons_zero, List.set_cons_succ, List.length_cons, List.length_nil, Nat.reduceAdd, Nat.reduceLT, Int32.reduceToNatClampNeg, true_and, and_true, and_self, reduceCtorEq, not_false_eq_true, false_and, and_false, or_false, false_or, true_or, or_true, nI_1]
          exact ih (i + 1) _ _ _ _ (by omega) (xW_nx hgw) hgr hgh
        | succ w ihw =>
          intro k gw gr gh hk hk1 hgw hgr hgh
          have hge2 : ¬ (15 : Int32) ≤ nI k := by
            rw [show (15 : Int32) = nI 15 from rfl, nI_leI (by omega) (by omega)]; omega
          have e64 : nI k * 64 = nI (k * 64) := by rw [show (64 : Int32) = nI 64 from rfl, pk_mul]
          have hv : vp_in (nI (k * 64 + i)) 1024 = True := eq_true (vp_in_nI (by omega) (by decide))
          refine jrun_ok jC X k_BO_init_142 142 _ _ _ o_BO_init_142 ?_
          simp only [k_BO_init_142, jrun, jstep, jldi, jldl, jlda, j1, j2, jl1, jl2, jli, ja1, jbr, jald, jast, jlald, jlast, jalen, jget, jput, jfit, jdup, jdupx, jdupx2, jdup2, jcat, jset1, jset2, jkill, List.getElem?_cons_zero, List.getElem?_cons_succ, List.set_cons_zero, List.set_cons_succ, List.length_cons, List.length_nil, Nat.reduceAdd, Nat.reduceLT, Int32.reduceToNatClampNeg, true_and, and_true, and_self, reduceCtorEq, not_false_eq_true, false_and, and_false, or_false, false_or, true_or, or_true, bd_a, bd_ua, bd_l, vp_nar_int32, haa, bd_r0 hab, bd_u0 hab, hb0, bd_r1 hab, bd_u1 hab, hb1, bd_r2 hab, bd_u2 hab, hb2, bd_r3 hab, bd_u3 hab, hb3, bd_r4 hab, bd_u4 hab, hb4, bd_r5 hab, bd_u5 hab, hb5, bd_r6 hab, bd_u6 hab, hb6, bd_r7 hab, bd_u7 hab, hb7, bd_r8 hab, bd_u8 hab, hb8, bd_r9 hab, bd_u9 hab, hb9, bd_r10 hab, bd_u10 hab, hb10, bd_f0, bd_f1, bd_f2, bd_f3, bd_f4, bd_f5, bd_f6, bd_f7, bd_f8, bd_f9, bd_f10, bd_f11, bd_f12, bd_f13, bd_f14, bd_f15, bd_f16, bd_s2, bd_s3, bd_s4, bd_s5, bd_s6, bd_s16, bA_6, bA_7, bA_8, bA_u6, bA_u7, bA_u8, e64, nI_add]
          refine ⟨fun h => absurd h hge2, fun _ => ?_⟩
          refine jk_Sg X hR d_BO_init_160 q_BO_init_160 m_BO_worthOf s_BO_worthOf (vals := [.inl (nI k), .inl (nI i)]) (r := [.inl (nI (k * 64 + i)), .inr (.inr (some (.inl (n + 6))))]) (cx_BO_worthOf M.2.1 E _ _ _ _) rfl rfl ⟨Nat.le_of_ble_eq_true rfl, Nat.le_of_ble_eq_true rfl⟩ (c' := 11) rfl (s' := 3738) rfl ⟨Nat.le_of_ble_eq_true rfl, Nat.le_of_ble_eq_true rfl⟩ (Nat.le_of_ble_eq_true rfl) (pc' := 163) rfl ?_
          rintro _ _ _ ⟨rfl, rfl, rfl⟩
          simp only [Option.toList_some, List.cons_append, List.nil_append]
          refine jrun_ok jC X k_BO_init_163 163 _ _ _ o_BO_init_163 ?_
          simp only [k_BO_init_163, jrun, jstep, jldi, jldl, jlda, j1, j2, jl1, jl2, jli, ja1, jbr, jald, jast, jlald, jlast, jalen, jget, jput, jfit, jdup, jdupx, jdupx2, jdup2, jcat, jset1, jset2, jkill, List.getElem?_cons_zero, List.getElem?_cons_succ, List.set_cons_zero, List.set_cons_succ, List.length_cons, List.length_nil, Nat.reduceAdd, Nat.reduceLT, Int32.reduceToNatClampNeg, true_and, and_true, and_self, reduceCtorEq, not_false_eq_true, false_and, and_false, or_false, false_or, true_or, or_true, bd_a, bd_ua, bd_l, vp_nar_int32, haa, bd_r0 hab, bd_u0 hab, hb0, bd_r1 hab, bd_u1 hab, hb1, bd_r2 hab, bd_u2 hab, hb2, bd_r3 hab, bd_u3 hab, hb3, bd_r4 hab, bd_u4 hab, hb4, bd_r5 hab, bd_u5 hab, hb5, bd_r6 hab, bd_u6 hab, hb6, bd_r7 hab, bd_u7 hab, hb7, bd_r8 hab, bd_u8 hab, hb8, bd_r9 hab, bd_u9 hab, hb9, bd_r10 hab, bd_u10 hab, hb10, bd_f0, bd_f1, bd_f2, bd_f3, bd_f4, bd_f5, bd_f6, bd_f7, bd_f8, bd_f9, bd_f10, bd_f11, bd_f12, bd_f13, bd_f14, bd_f15, bd_f16, bd_s2, bd_s3, bd_s4, bd_s5, bd_s6, bd_s16, bA_6, bA_7, bA_8, bA_u6, bA_u7, bA_u8, hv, nI_1]
          exact ihw (k + 1) _ _ _ (by omega) (by omega) (xW_st hgw (by omega) hk1 (by omega) (nI_clamp (by omega)) rfl) hgr hgh
      have hin1 : ∀ (w k : Nat) (gr : Nat → Int32), k + w = 8 → xR gr i k → jJ E jcl 3 M (jQ E jcl M (fun r σ' n' => ∃ (F : Nat → Int32) (A : Nat → Nat → Int32) (L : Nat → Nat → Int64), r = none ∧ n' = n + 11 ∧ (∀ p, p < n + 11 → σ' p = bdP σ a n F A L p) ∧ zFB a n F A L) 11 3738) (n + 11) 11 3738 103 [some (.inr (.inr (some (.inl (a))))), some (.inl (nI i)), some (.inl (nI k))] [] (bdP σ a n (fun _ => 0) (bA gw gr gh) (fun _ _ => 0)) := by
        intro w
        induction w with
        | zero =>
          intro k gr hk hgr
          obtain rfl : k = 8 := by omega
          refine jrun_ok jC X k_BO_init_103 103 _ _ _ o_BO_init_103 ?_
          simp only [k_BO_init_103, jrun, jstep, jldi, jldl, jlda, j1, j2, jl1, jl2, jli, ja1, jbr, jald, jast, jlald, jlast, jalen, jget, jput, jfit, jdup, jdupx, jdupx2, jdup2, jcat, jset1, jset2, jkill, List.getElem?_cons_zero, List.getElem?_cons_succ, List.set_cons_zero, List.set_cons_succ, List.length_cons, List.length_nil, Nat.reduceAdd, Nat.reduceLT, Int32.reduceToNatClampNeg, true_and, and_true, and_self, reduceCtorEq, not_false_eq_true, false_and, and_false, or_false, false_or, true_or, or_true, bd_a, bd_ua, bd_l, vp_nar_int32, haa, bd_r0 hab, bd_u0 hab, hb0, bd_r1 hab, bd_u1 hab, hb1, bd_r2 hab, bd_u2 hab, hb2, bd_r3 hab, bd_u3 hab, hb3, bd_r4 hab, bd_u4 hab, hb4, bd_r5 hab, bd_u5 hab, hb5, bd_r6 hab, bd_u6 hab, hb6, bd_r7 hab, bd_u7 hab, hb7, bd_r8 hab, bd_u8 hab, hb8, bd_r9 hab, bd_u9 hab, hb9, bd_r10 hab, bd_u10 hab, hb10, bd_f0, bd_f1, bd_f2, bd_f3, bd_f4, bd_f5, bd_f6, bd_f7, bd_f8, bd_f9, bd_f10, bd_f11, bd_f12, bd_f13, bd_f14, bd_f15, bd_f16, bd_s2, bd_s3, bd_s4, bd_s5, bd_s6, bd_s16, bA_6, bA_7, bA_8, bA_u6, bA_u7, bA_u8, jtb_0]
          refine ⟨fun _ => ?_, fun h => absurd (by decide) h⟩
          refine jrun_ok jC X k_BO_init_135 135 _ _ _ o_BO_init_135 ?_
          simp only [k_BO_init_135, jrun, jstep, jldi, jldl, jlda, j1, j2, jl1, jl2, jli, ja1, jbr, jald, jast, jlald, jlast, jalen, jget, jput, jfit, jdup, jdupx, jdupx2, jdup2, jcat, jset1, jset2, jkill, List.getElem?_cons_zero, List.getElem?_cons_succ, List.set_cons_zero, List.set_cons_succ, List.length_cons, List.length_nil, Nat.reduceAdd, Nat.reduceLT, Int32.reduceToNatClampNeg, true_and, and_true, and_self, reduceCtorEq, not_false_eq_true, false_and, and_false, or_false, false_or, true_or, or_true]
          refine jk_Vg X hR d_BO_init_137 q_BO_init_137 m_BO_fillHops i_BO_fillHops e_BO_fillHops (ci := 10) rfl rfl (by omega) bd_a (cx_BO_fillHops M.2.1 E _ _ _ _ ha (Nat.le_refl _) _ _ _ i (by omega)) rfl rfl ⟨Nat.le_of_ble_eq_true rfl, Nat.le_of_ble_eq_true rfl⟩ (c' := 11) rfl (s' := 3738) rfl ⟨Nat.le_of_ble_eq_true rfl, Nat.le_of_ble_eq_true rfl⟩ (Nat.le_of_ble_eq_true rfl) (pc' := 140) rfl ?_
          rintro _ _ _ ⟨g8, rfl, rfl, rfl, hg1, hg2⟩
          simp only [Option.toList_none, List.nil_append, bA_u8]
          refine jrun_ok jC X k_BO_init_140 140 _ _ _ o_BO_init_140 ?_
          simp only [k_BO_init_140, jrun, jstep, jldi, jldl, jlda, j1, j2, jl1, jl2, jli, ja1, jbr, jald, jast, jlald, jlast, jalen, jget, jput, jfit, jdup, jdupx, jdupx2, jdup2, jcat, jset1, jset2, jkill, List.getElem?_cons_zero, List.getElem?_cons_succ, List.set_cons_zero, List.set_cons_succ, List.length_cons, List.length_nil, Nat.reduceAdd, Nat.reduceLT, Int32.reduceToNatClampNeg, true_and, and_true, and_self, reduceCtorEq, not_false_eq_true, false_and, and_false, or_false, false_or, true_or, or_true]
          exact hin2 14 1 _ _ _ (by omega) (by omega) hgw (xR_nx hgr) (xH_nx hgh hg1 hg2)
        | succ w ihw =>
          intro k gr hk hgr
          have hge2 : ¬ (8 : Int32) ≤ nI k := by
            rw [show (8 : Int32) = nI 8 from rfl, nI_leI (by omega) (by omega)]; omega
          have hv : vp_in (nI (i * 8 + k)) 512 = True := eq_true (vp_in_nI (by omega) (by decide))
          have hv8 : vp_in (nI k) 8 = True := eq_true (vp_in_nI (by omega) (by decide))
          refine jrun_ok jC X k_BO_init_103 103 _ _ _ o_BO_init_103 ?_
          simp only [k_BO_init_103, jrun, jstep, jldi, jldl, jlda, j1, j2, jl1, jl2, jli, ja1, jbr, jald, jast, jlald, jlast, jalen, jget, jput, jfit, jdup, jdupx, jdupx2, jdup2, jcat, jset1, jset2, jkill, List.getElem?_cons_zero, List.getElem?_cons_succ, List.set_cons_zero, List.set_cons_succ, List.length_cons, List.length_nil, Nat.reduceAdd, Nat.reduceLT, Int32.reduceToNatClampNeg, true_and, and_true, and_self, reduceCtorEq, not_false_eq_true, false_and, and_false, or_false, false_or, true_or, or_true, bd_a, bd_ua, bd_l, vp_nar_int32, haa, bd_r0 hab, bd_u0 hab, hb0, bd_r1 hab, bd_u1 hab, hb1, bd_r2 hab, bd_u2 hab, hb2, bd_r3 hab, bd_u3 hab, hb3, bd_r4 hab, bd_u4 hab, hb4, bd_r5 hab, bd_u5 hab, hb5, bd_r6 hab, bd_u6 hab, hb6, bd_r7 hab, bd_u7 hab, hb7, bd_r8 hab, bd_u8 hab, hb8, bd_r9 hab, bd_u9 hab, hb9, bd_r10 hab, bd_u10 hab, hb10, bd_f0, bd_f1, bd_f2, bd_f3, bd_f4, bd_f5, bd_f6, bd_f7, bd_f8, bd_f9, bd_f10, bd_f11, bd_f12, bd_f13, bd_f14, bd_f15, bd_f16, bd_s2, bd_s3, bd_s4, bd_s5, bd_s6, bd_s16, bA_6, bA_7, bA_8, bA_u6, bA_u7, bA_u8, jtb_0, e8, nI_add, hv8]
          refine ⟨fun h => absurd h hge2, fun _ => ?_⟩
          refine jk_Sg X hR d_BO_init_125 q_BO_init_125 m_BO_stepsToEdge s_BO_stepsToEdge (vals := [.inl (nI i), _]) (r := [.inl (nI (i * 8 + k)), .inr (.inr (some (.inl (n + 7))))]) (cx_BO_stepsToEdge M.2.1 E _ _ _ _) rfl rfl ⟨Nat.le_of_ble_eq_true rfl, Nat.le_of_ble_eq_true rfl⟩ (c' := 11) rfl (s' := 3738) rfl ⟨Nat.le_of_ble_eq_true rfl, Nat.le_of_ble_eq_true rfl⟩ (Nat.le_of_ble_eq_true rfl) (pc' := 128) rfl ?_
          rintro _ _ _ ⟨rfl, rfl, rfl⟩
          simp only [Option.toList_some, List.cons_append, List.nil_append]
          refine jrun_ok jC X k_BO_init_128 128 _ _ _ o_BO_init_128 ?_
          simp only [k_BO_init_128, jrun, jstep, jldi, jldl, jlda, j1, j2, jl1, jl2, jli, ja1, jbr, jald, jast, jlald, jlast, jalen, jget, jput, jfit, jdup, jdupx, jdupx2, jdup2, jcat, jset1, jset2, jkill, List.getElem?_cons_zero, List.getElem?_cons_succ, List.set_cons_zero, List.set_cons_succ, List.length_cons, List.length_nil, Nat.reduceAdd, Nat.reduceLT, Int32.reduceToNatClampNeg, true_and, and_true, and_self, reduceCtorEq, not_false_eq_true, false_and, and_false, or_false, false_or, true_or, or_true, bd_a, bd_ua, bd_l, vp_nar_int32, haa, bd_r0 hab, bd_u0 hab, hb0, bd_r1 hab, bd_u1 hab, hb1, bd_r2 hab, bd_u2 hab, hb2, bd_r3 hab, bd_u3 hab, hb3, bd_r4 hab, bd_u4 hab, hb4, bd_r5 hab, bd_u5 hab, hb5, bd_r6 hab, bd_u6 hab, hb6, bd_r7 hab, bd_u7 hab, hb7, bd_r8 hab, bd_u8 hab, hb8, bd_r9 hab, bd_u9 hab, hb9, bd_r10 hab, bd_u10 hab, hb10, bd_f0, bd_f1, bd_f2, bd_f3, bd_f4, bd_f5, bd_f6, bd_f7, bd_f8, bd_f9, bd_f10, bd_f11, bd_f12, bd_f13, bd_f14, bd_f15, bd_f16, bd_s2, bd_s3, bd_s4, bd_s5, bd_s6, bd_s16, bA_6, bA_7, bA_8, bA_u6, bA_u7, bA_u8, hv, nI_1]
          exact ihw (k + 1) _ (by omega) (xR_st hgr (by omega) (nI_clamp (by omega)) (by first | rfl | (rw [nI_clamp (by omega)])))
      refine jrun_ok jC X k_BO_init_95 95 _ _ _ o_BO_init_95 ?_
      simp only [k_BO_init_95, jrun, jstep, jldi, jldl, jlda, j1, j2, jl1, jl2, jli, ja1, jbr, jald, jast, jlald, jlast, jalen, jget, jput, jfit, jdup, jdupx, jdupx2, jdup2, jcat, jset1, jset2, jkill, List.getElem?_cons_zero, List.getElem?_cons_succ, List.set_cons_zero, List.set_cons_succ, List.length_cons, List.length_nil, Nat.reduceAdd, Nat.reduceLT, Int32.reduceToNatClampNeg, true_and, and_true, and_self, reduceCtorEq, not_false_eq_true, false_and, and_false, or_false, false_or, true_or, or_true, bd_a, bd_ua, bd_l, vp_nar_int32, haa, bd_r0 hab, bd_u0 hab, hb0, bd_r1 hab, bd_u1 hab, hb1, bd_r2 hab, bd_u2 hab, hb2, bd_r3 hab, bd_u3 hab, hb3, bd_r4 hab, bd_u4 hab, hb4, bd_r5 hab, bd_u5 hab, hb5, bd_r6 hab, bd_u6 hab, hb6, bd_r7 hab, bd_u7 hab, hb7, bd_r8 hab, bd_u8 hab, hb8, bd_r9 hab, bd_u9 hab, hb9, bd_r10 hab, bd_u10 hab, hb10, bd_f0, bd_f1, bd_f2, bd_f3, bd_f4, bd_f5, bd_f6, bd_f7, bd_f8, bd_f9, bd_f10, bd_f11, bd_f12, bd_f13, bd_f14, bd_f15, bd_f16, bd_s2, bd_s3, bd_s4, bd_s5, bd_s6, bd_s16, bA_6, bA_7, bA_8, bA_u6, bA_u7, bA_u8, bA_6, bA_7, bA_8, bA_u6, bA_u7, bA_u8]
      refine ⟨fun h => absurd h hge, fun _ => ?_⟩
      exact hin1 8 0 _ (by omega) hgr
  refine jJ_congr (σ2 := bdP σ a n (fun _ => 0) (bA (fun _ => 0) (fun _ => 0) (fun _ => 0)) (fun _ _ => 0)) (fun k hk => bd_jmk (F := fun _ => 0) (A := bA (fun _ => 0) (fun _ => 0) (fun _ => 0)) (L := fun _ _ => 0) ha (by rfl) (by rfl) k hk) ?_
  exact houter 64 0 _ _ _ _ (by omega) ⟨fun s m _ _ _ h9 => by omega, fun _ _ => rfl⟩ (fun s t _ h9 => by omega) (fun s t h9 => by omega)
end BOI
