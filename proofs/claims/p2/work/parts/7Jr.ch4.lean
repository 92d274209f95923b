/-! the two games: kinds as they are seen from the other one -/
def sK (k : Nat) : Nat := if 25 ≤ k ∧ k ≤ 51 then k + 1000 else if 1025 ≤ k ∧ k ≤ 1051 then k - 1000 else k
def cK (K : Nat → Nat) : Nat → Nat := fun a => sK (K a)
theorem sK_id {k : Nat} (h1 : ¬ (25 ≤ k ∧ k ≤ 51)) (h2 : ¬ (1025 ≤ k ∧ k ≤ 1051)) : sK k = k := by
  unfold sK
  rw [if_neg h1, if_neg h2]
theorem sK_up {k : Nat} (h1 : 25 ≤ k ∧ k ≤ 51) : sK k = k + 1000 := if_pos h1
theorem sK_dn {k : Nat} (h1 : 1025 ≤ k ∧ k ≤ 1051) : sK k = k - 1000 := by
  unfold sK
  rw [if_neg (by omega), if_pos h1]
theorem sK_sK (k : Nat) : sK (sK k) = k := by
  by_cases h1 : 25 ≤ k ∧ k ≤ 51
  · rw [sK_up h1, sK_dn (by omega)]
    omega
  · by_cases h2 : 1025 ≤ k ∧ k ≤ 1051
    · rw [sK_dn h2, sK_up (by omega)]
      omega
    · rw [sK_id h1 h2, sK_id h1 h2]
theorem cK_cK (K : Nat → Nat) : cK (cK K) = K := funext fun a => sK_sK (K a)
/-- a type that names no kind of a game -/
def tOk (t : aT) : Bool := match t with
  | .inr (some (.inl q)) => !(decide (25 ≤ q.2) && decide (q.2 ≤ 51)) && !(decide (1025 ≤ q.2) && decide (q.2 ≤ 1051))
  | _ => true
def kOk (d : aKd) : Bool := match d with
  | .inl _ => true
  | .inr q => q.2.all tOk
section TWI
variable {K : Nat → Nat} {n : Nat}
theorem aG_cK {t : aT} {v : jv} (ht : tOk t = true) (h : aG K n t v) : aG (cK K) n t v := by
  rcases t with q | _ | q | j
  · obtain ⟨x, rfl, hx⟩ := aG_int h
    exact hx
  · obtain ⟨x, rfl⟩ := aG_lng h
    exact trivial
  · obtain ⟨b, k⟩ := q
    rcases aG_ref h with ⟨rfl, rfl⟩ | ⟨a, rfl, h1, h2⟩
    · exact rfl
    · refine ⟨h1, h2.imp (fun e => ?_) id⟩
      show sK (K a) = k
      have ht : (!(decide (25 ≤ k) && decide (k ≤ 51)) && !(decide (1025 ≤ k) && decide (k ≤ 1051))) = true := ht
      rw [e]
      exact sK_id (fun h9 => by simp [h9.1, h9.2] at ht) (fun h9 => by simp [h9.1, h9.2] at ht)
  · obtain ⟨i, rfl, hi⟩ := aG_rng h
    exact hi
theorem aCe_cK {d : aKd} {c : jcell} (hd : kOk d = true) (hc : aCe K n d c) : aCe (cK K) n d c := by
  rcases d with q | q
  · rcases c with ⟨t, m, g | g | g⟩ | y
    · exact hc
    · exact hc
    · exact hc
    · exact hc.elim
  · obtain ⟨fs, rfl, h1, h2⟩ := aCe_obj hc
    exact ⟨rfl, h1, fun f t v ht hv => aG_cK (List.all_eq_true.mp hd t (List.mem_of_getElem? ht)) (h2 f t v ht hv)⟩
theorem kT_ok : (List.range fa_T.length).all (fun k => (decide (25 ≤ k) && decide (k ≤ 51)) || (match fa_T[k]? with
  | some d => kOk d
  | none => true)) = true := by decide +kernel
theorem kT_len : fa_T.length = 115 := rfl
theorem kT_at {k : Nat} {d : aKd} (h : fa_T[k]? = some d) (hk : ¬ (25 ≤ k ∧ k ≤ 51)) : kOk d = true := by
  have h1 := List.all_eq_true.mp kT_ok k (List.mem_range.mpr (List.getElem?_eq_some_iff.mp h).1)
  rw [Bool.or_eq_true, h] at h1
  rcases h1 with h1 | h1
  · rw [Bool.and_eq_true, decide_eq_true_eq, decide_eq_true_eq] at h1
    exact absurd h1 hk
  · exact h1
/-- what lies of the other game has not been touched -/
theorem aH_tw {σ σ' : Nat → jcell} (h1 : aH fa_T K n σ') (h2 : aH fa_T (cK K) n σ) (hs : ∀ a, a < n → 1025 ≤ K a → K a ≤ 1051 → σ' a = σ a) : aH fa_T (cK K) n σ' := by
  intro a ha d hd
  by_cases g1 : 25 ≤ K a ∧ K a ≤ 51
  · have e : cK K a = K a + 1000 := sK_up g1
    rw [e, List.getElem?_eq_none (by rw [kT_len]; omega)] at hd
    cases hd
  · by_cases g2 : 1025 ≤ K a ∧ K a ≤ 1051
    · rw [hs a ha g2.1 g2.2]
      exact h2 a ha d hd
    · have e : cK K a = K a := sK_id g1 g2
      rw [e] at hd
      exact aCe_cK (kT_at hd g1) (h1 a ha d hd)
theorem fJX_eq {σ σ' : Nat → jcell} (h : fJX K n σ) (hs : ∀ a, a < n → 25 ≤ K a → K a ≤ 51 → σ' a = σ a) : fJX K n σ' := by
  obtain ⟨h1, h2, h3, h4⟩ := h
  refine ⟨fun a ha hk => ?_, fun a ha hk => ?_, fun a ha hk => ?_, fun a ha hk => ?_⟩
  · rw [hs a ha (by omega) (by omega)]
    exact h1 a ha hk
  · rw [hs a ha (by omega) (by omega)]
    exact h2 a ha hk
  · obtain ⟨n0, l1, l2, l3, fs, l4⟩ := h3 a ha hk
    exact ⟨n0, l1, l2, l3, fs, by rw [hs a ha (by omega) (by omega)]; exact l4⟩
  · rw [hs a ha (by omega) (by omega)]
    exact h4 a ha hk
theorem cK_sp {a : Nat} : (25 ≤ cK K a ∧ cK K a ≤ 51) ↔ (1025 ≤ K a ∧ K a ≤ 1051) := by
  show (25 ≤ sK (K a) ∧ sK (K a) ≤ 51) ↔ _
  by_cases g1 : 25 ≤ K a ∧ K a ≤ 51
  · rw [sK_up g1]
    omega
  · by_cases g2 : 1025 ≤ K a ∧ K a ≤ 1051
    · rw [sK_dn g2]
      omega
    · rw [sK_id g1 g2]
      omega
theorem fJX_tw {σ σ' : Nat → jcell} (h : fJX (cK K) n σ) (hs : ∀ a, a < n → 1025 ≤ K a → K a ≤ 1051 → σ' a = σ a) : fJX (cK K) n σ' := fJX_eq h (fun a ha h1 h2 => hs a ha (cK_sp.mp ⟨h1, h2⟩).1 (cK_sp.mp ⟨h1, h2⟩).2)
end TWI
/-- a frame that names no kind from 1000 on leaves the other game alone -/
theorem aFr_tw {K : Nat → Nat} {n : Nat} {md : List (Nat × Nat)} {mk : List (Nat × aF)} {ρ : List jv} {σ σ' : Nat → jcell} (h1 : aFr K n md σ σ') (h2 : aFa K n mk ρ σ σ') (hH : aH fa_T (cK K) n σ) (hm : md.all (fun q => decide (q.1 < 1000)) = true) (hk : mk.all (fun q => decide (q.1 < 1000)) = true) : ∀ a, a < n → 1025 ≤ K a → K a ≤ 1051 → σ' a = σ a := by
  intro a ha g1 g2
  have hm : ∀ q ∈ md, ¬ q.1 = K a := fun q hq e => by
    have := of_decide_eq_true (List.all_eq_true.mp hm q hq)
    omega
  have hk : ∀ q ∈ mk, ¬ q.1 = K a := fun q hq e => by
    have := of_decide_eq_true (List.all_eq_true.mp hk q hq)
    omega
  have hT : cK K a < fa_T.length := by
    rw [kT_len]
    show sK (K a) < 115
    rw [sK_dn ⟨g1, g2⟩]
    omega
  have h9 := hH a ha _ (List.getElem?_eq_getElem hT)
  rcases hc : σ a with ⟨t, m, g | g | g⟩ | ⟨c, fs⟩
  · obtain ⟨g', e1, e2⟩ := (h2 a ha).1 t m g hc
    rw [e1, show g' = g from funext (fun i => e2 i (fun q hq e => absurd e (hk q hq)))]
  · obtain ⟨g', e1, e2⟩ := (h2 a ha).2 t m g hc
    rw [e1, show g' = g from funext (fun i => e2 i (fun q hq e => absurd e (hk q hq)))]
  · rw [hc] at h9
    unfold aCe at h9
    split at h9 <;> first | exact h9.elim | (rename_i he; cases he) | skip
  · obtain ⟨fs', e1, e2, e3⟩ := h1 a ha c fs hc
    rw [e1]
    congr 2
    apply List.ext_getElem?
    intro i
    by_cases hi : i < fs.length
    · have hv : fs[i]? = some fs[i] := List.getElem?_eq_getElem hi
      rw [e3 i _ hv (fun q => hm _ q rfl), hv]
    · rw [List.getElem?_eq_none (by omega), List.getElem?_eq_none (by omega)]
