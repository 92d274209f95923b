/-! CLASS: a cell is made -/
def gK (K : Nat → Nat) (n k : Nat) : Nat → Nat := fun a => if a < n then K a else k
section GKN
variable {K : Nat → Nat} {n k : Nat} {σ : Nat → jcell} {c : jcell}
theorem gK_lo {a : Nat} (h : a < n) : gK K n k a = K a := if_pos h
theorem gK_at : gK K n k n = k := if_neg (Nat.lt_irrefl _)
theorem gK_gw : gW K n (gK K n k) (n + 1) := ⟨Nat.le_succ _, fun _ h => gK_lo h⟩
theorem cK_gK (h1 : ¬ (25 ≤ k ∧ k ≤ 51)) (h2 : ¬ (1025 ≤ k ∧ k ≤ 1051)) : cK (gK K n k) = gK (cK K) n k := by
  funext a
  show sK (if a < n then K a else k) = if a < n then sK (K a) else k
  split
  · rfl
  · exact sK_id h1 h2
theorem aH_gK (h : aH fa_T K n σ) (hc : ∀ d, fa_T[k]? = some d → aCe (gK K n k) (n + 1) d c) : aH fa_T (gK K n k) (n + 1) (jup σ n c) := by
  intro a ha d hd
  by_cases hn : a < n
  · rw [gK_lo hn] at hd
    rw [jup_n (by omega)]
    exact aCe_gw gK_gw (h a hn d hd)
  · obtain rfl : a = n := by omega
    rw [gK_at] at hd
    rw [jup_s]
    exact hc d hd
theorem fJX_gK (h : fJX K n σ) (hk : ¬ (25 ≤ k ∧ k ≤ 51)) : fJX (gK K n k) (n + 1) (jup σ n c) := by
  obtain ⟨h1, h2, h3, h4⟩ := h
  have lo : ∀ a q, a < n + 1 → gK K n k a = q → 25 ≤ q → q ≤ 51 → a < n ∧ K a = q := by
    intro a q ha hq g1 g2
    by_cases hn : a < n
    · rw [gK_lo hn] at hq
      exact ⟨hn, hq⟩
    · obtain rfl : a = n := by omega
      rw [gK_at] at hq
      omega
  refine ⟨fun a ha hq => ?_, fun a ha hq => ?_, fun a ha hq => ?_, fun a ha hq => ?_⟩
  · obtain ⟨l1, l2⟩ := lo a _ ha hq (by omega) (by omega)
    rw [jup_n (by omega)]
    exact h1 a l1 l2
  · obtain ⟨l1, l2⟩ := lo a _ ha hq (by omega) (by omega)
    rw [jup_n (by omega)]
    exact h2 a l1 l2
  · obtain ⟨l1, l2⟩ := lo a _ ha hq (by omega) (by omega)
    obtain ⟨n0, g1, g2, g3, fs, g4, g5⟩ := h3 a l1 l2
    exact ⟨n0, g1, by omega, fun j hj => by rw [gK_lo (by omega)]; exact g3 j hj, fs, by rw [jup_n (by omega)]; exact g4, g5⟩
  · obtain ⟨l1, l2⟩ := lo a _ ha hq (by omega) (by omega)
    rw [jup_n (by omega)]
    exact h4 a l1 l2
end GKN
/-- a new row of zeros -/
theorem aCe_z {K : Nat → Nat} {n m : Nat} {ty : FieldType} {q : Int × Int} (hty : ¬ ty = .long) (h1 : q.1 ≤ 0) (h2 : 0 ≤ q.2) : aCe K n (.inl (ty, m, q, [])) (.inl (ty, m, .inl fun _ => 0)) := ⟨rfl, rfl, hty, fun i _ => ⟨(show aIn q 0 from ⟨h1, h2⟩), fun q hq => by cases hq⟩⟩
/-- how many cells of a kind there are -/
def kN (K : Nat → Nat) (k : Nat) : Nat → Nat
  | 0 => 0
  | n + 1 => kN K k n + (if K n = k then 1 else 0)
theorem kN_eq {K K' : Nat → Nat} {k : Nat} : ∀ (n : Nat), (∀ a, a < n → K' a = K a) → kN K' k n = kN K k n
  | 0, _ => rfl
  | n + 1, h => by
    unfold kN
    rw [kN_eq n (fun a ha => h a (by omega)), h n (by omega)]
theorem kN_gK {K : Nat → Nat} {n k j : Nat} : kN (gK K n j) k (n + 1) = kN K k n + (if j = k then 1 else 0) := by
  show kN (gK K n j) k n + (if gK K n j n = k then 1 else 0) = _
  rw [kN_eq n (fun a ha => gK_lo ha), gK_at]
/-- cells and slots of tables -/
def tC (K : Nat → Nat) (n : Nat) : Nat := kN K 114 n + kN K 52 n + kN K 53 n + kN K 54 n
def tS (K : Nat → Nat) (n : Nat) : Nat := 81920 * kN K 114 n + 196608 * kN K 52 n + 81920 * kN K 53 n + 196608 * kN K 54 n
