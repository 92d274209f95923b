/-! what stands when the object of the class has been made -/
noncomputable def ckl : List Nat := [1, 2, 3, 6, 7, 8, 9, 10, 11, 8, 9, 10, 12, 13, 14, 4, 5, 8, 9, 10, 15, 16, 17, 18, 19, 20, 21, 22, 23, 24, 998, 24, 25, 26, 27, 28, 29, 30, 31, 32, 33, 34, 35, 36, 37, 38, 39, 40, 41, 42, 43, 44, 45, 46, 47, 48, 49, 50, 51, 1025, 1026, 1027, 1028, 1029, 1030, 1031, 1032, 1033, 1034, 1035, 1036, 1037, 1038, 1039, 1040, 1041, 1042, 1043, 1044, 1045, 1046, 1047, 1048, 1049, 1050, 1051]
noncomputable def ccl (n : Nat) (F1 : Nat → Int32) (A1 : Nat → Nat → Int32) (L1 : Nat → Nat → Int64) (F2 : Nat → Int32) (A2 : Nat → Nat → Int32) (L2 : Nat → Nat → Int64) : List jcell := [.inl (.byte, 65537, .inl fun _ => 0), .inr (1, [.inr (.inr (some (.inl (n + 2)))), .inl 0]), .inl (.byte, 65536, .inl fun _ => 0), .inr (2, [.inr (.inr (some (.inl (n + 4)))), .inl 0, .inl 0, .inr (.inr none), .inl 0]), .inl (.int, 8, .inl fun _ => 0), .inr (3, [.inr (.inr (some (.inl (n + 6)))), .inr (.inr (some (.inl (n + 7)))), .inl 0, .inl 0, .inl 0, .inl 0, .inl 0, .inl 0, .inl 0, .inl 0, .inl 0]), .inl (.int, 3456, .inl fun _ => 0), .inl (.int, 7, .inl fun _ => 0), .inr (4, [.inl 0, .inr (.inr (some (.inl (n + 9)))), .inr (.inr (some (.inl (n + 12)))), .inr (.inr (some (.inl (n + 13)))), .inr (.inr none), .inr (.inr none), .inl 0, .inl 0, .inl 0, .inl 0, .inl 0, .inl 0]), .inr (3, [.inr (.inr (some (.inl (n + 10)))), .inr (.inr (some (.inl (n + 11)))), .inl 0, .inl 0, .inl 0, .inl 0, .inl 0, .inl 0, .inl 0, .inl 0, .inl 0]), .inl (.int, 3456, .inl fun _ => 0), .inl (.int, 7, .inl fun _ => 0), .inl (.int, 6, .inl fun _ => 0), .inl (.byte, 96, .inl fun _ => 0), .inr (5, [.inr (.inr (some (.inl (n + 15)))), .inr (.inr (some (.inl (n + 17)))), .inr (.inr none)]), .inr (1, [.inr (.inr (some (.inl (n + 16)))), .inl 0]), .inl (.byte, 131072, .inl fun _ => 0), .inr (3, [.inr (.inr (some (.inl (n + 18)))), .inr (.inr (some (.inl (n + 19)))), .inl 0, .inl 0, .inl 0, .inl 0, .inl 0, .inl 0, .inl 0, .inl 0, .inl 0]), .inl (.int, 3456, .inl fun _ => 0), .inl (.int, 7, .inl fun _ => 0), .inr (6, [.inl 0, .inr (.inr (some (.inl (n + 21)))), .inr (.inr (some (.inl (n + 22)))), .inr (.inr (some (.inl (n + 23)))), .inl 0, .inr (.inr none), .inl 0]), .inl (.int, 20736, .inl fun _ => 0), .inl (.int, 8, .inl fun _ => 0), .inl (.long, 8, .inr (.inl fun _ => 0)), .inr (7, [.inl 0, .inl 0, .inl 0, .inl 0, .inr (.inr (some (.inl (n + 25)))), .inr (.inr (some (.inl (n + 26)))), .inr (.inr (some (.inl (n + 27)))), .inr (.inr none), .inl 0, .inl 0]), .inl (.int, 4, .inl fun _ => 0), .inl (.long, 4, .inr (.inl fun _ => 0)), .inl (.int, 13824, .inl fun _ => 0), .inr (8, [.inl 0, .inl 0, .inr (.inr (some (.inl (n + 29)))), .inr (.inr none), .inr (.inr none), .inr (.inr none), .inr (.inr none), .inr (.inr (some (.inl (n + 30)))), .inl 0, .inl 0]), .inl (.int, 1728, .inl fun _ => 0), .inl (.int, 0, .inl fun _ => 0), .inl (.int, 1728, .inl fun _ => 0), .inr (9, [.inr (.inr (some (.inl (n + 33)))), .inl 0, .inl 0, .inr (.inr (some (.inl (n + 45)))), .inr (.inr (some (.inl (n + 46)))), .inr (.inr (some (.inl (n + 47)))), .inr (.inr (some (.inl (n + 48)))), .inr (.inr (some (.inl (n + 49)))), .inr (.inr (some (.inl (n + 50)))), .inr (.inr (some (.inl (n + 51)))), .inr (.inr (some (.inl (n + 52)))), .inr (.inr (some (.inl (n + 53)))), .inr (.inr (some (.inl (n + 54)))), .inl 0, .inr (.inr (some (.inl (n + 55)))), .inr (.inr (some (.inl (n + 56)))), .inr (.inr (some (.inl (n + 57)))), .inr (.inr (some (.inl (n + 58)))), .inl 0]), .inr (10, [.inr (.inr (some (.inl (n + 34)))), .inr (.inr (some (.inl (n + 35)))), .inl (F1 2), .inl (F1 3), .inl (F1 4), .inl (F1 5), .inl (F1 6), .inr (.inr (some (.inl (n + 36)))), .inr (.inr (some (.inl (n + 37)))), .inr (.inr (some (.inl (n + 38)))), .inr (.inr (some (.inl (n + 39)))), .inr (.inr (some (.inl (n + 40)))), .inr (.inr (some (.inl (n + 41)))), .inr (.inr (some (.inl (n + 42)))), .inr (.inr (some (.inl (n + 43)))), .inr (.inr (some (.inl (n + 44)))), .inl (F1 16)]), .inl (.int, 64, .inl (A1 0)), .inl (.int, 2, .inl (A1 1)), .inl (.long, 4, .inr (.inl (L1 2))), .inl (.int, 2, .inl (A1 3)), .inl (.int, 16, .inl (A1 4)), .inl (.int, 2, .inl (A1 5)), .inl (.int, 1024, .inl (A1 6)), .inl (.int, 512, .inl (A1 7)), .inl (.int, 512, .inl (A1 8)), .inl (.long, 1280, .inr (.inl (L1 9))), .inl (.int, 320, .inl (A1 10)), .inl (.int, 301, .inl fun _ => 0), .inl (.int, 301, .inl fun _ => 0), .inl (.int, 301, .inl fun _ => 0), .inl (.int, 301, .inl fun _ => 0), .inl (.long, 301, .inr (.inl fun _ => 0)), .inl (.int, 1204, .inl fun _ => 0), .inl (.int, 301, .inl fun _ => 0), .inl (.byte, 60200, .inl fun _ => 0), .inl (.int, 301, .inl fun _ => 0), .inl (.int, 301, .inl fun _ => 0), .inl (.byte, 96, .inl fun _ => 0), .inl (.int, 8, .inl fun _ => 0), .inl (.byte, 768, .inl fun _ => 0), .inl (.int, 8, .inl fun _ => 0), .inr (9, [.inr (.inr (some (.inl (n + 60)))), .inl 0, .inl 0, .inr (.inr (some (.inl (n + 72)))), .inr (.inr (some (.inl (n + 73)))), .inr (.inr (some (.inl (n + 74)))), .inr (.inr (some (.inl (n + 75)))), .inr (.inr (some (.inl (n + 76)))), .inr (.inr (some (.inl (n + 77)))), .inr (.inr (some (.inl (n + 78)))), .inr (.inr (some (.inl (n + 79)))), .inr (.inr (some (.inl (n + 80)))), .inr (.inr (some (.inl (n + 81)))), .inl 0, .inr (.inr (some (.inl (n + 82)))), .inr (.inr (some (.inl (n + 83)))), .inr (.inr (some (.inl (n + 84)))), .inr (.inr (some (.inl (n + 85)))), .inl 0]), .inr (10, [.inr (.inr (some (.inl (n + 61)))), .inr (.inr (some (.inl (n + 62)))), .inl (F2 2), .inl (F2 3), .inl (F2 4), .inl (F2 5), .inl (F2 6), .inr (.inr (some (.inl (n + 63)))), .inr (.inr (some (.inl (n + 64)))), .inr (.inr (some (.inl (n + 65)))), .inr (.inr (some (.inl (n + 66)))), .inr (.inr (some (.inl (n + 67)))), .inr (.inr (some (.inl (n + 68)))), .inr (.inr (some (.inl (n + 69)))), .inr (.inr (some (.inl (n + 70)))), .inr (.inr (some (.inl (n + 71)))), .inl (F2 16)]), .inl (.int, 64, .inl (A2 0)), .inl (.int, 2, .inl (A2 1)), .inl (.long, 4, .inr (.inl (L2 2))), .inl (.int, 2, .inl (A2 3)), .inl (.int, 16, .inl (A2 4)), .inl (.int, 2, .inl (A2 5)), .inl (.int, 1024, .inl (A2 6)), .inl (.int, 512, .inl (A2 7)), .inl (.int, 512, .inl (A2 8)), .inl (.long, 1280, .inr (.inl (L2 9))), .inl (.int, 320, .inl (A2 10)), .inl (.int, 301, .inl fun _ => 0), .inl (.int, 301, .inl fun _ => 0), .inl (.int, 301, .inl fun _ => 0), .inl (.int, 301, .inl fun _ => 0), .inl (.long, 301, .inr (.inl fun _ => 0)), .inl (.int, 1204, .inl fun _ => 0), .inl (.int, 301, .inl fun _ => 0), .inl (.byte, 60200, .inl fun _ => 0), .inl (.int, 301, .inl fun _ => 0), .inl (.int, 301, .inl fun _ => 0), .inl (.byte, 96, .inl fun _ => 0), .inl (.int, 8, .inl fun _ => 0), .inl (.byte, 768, .inl fun _ => 0), .inl (.int, 8, .inl fun _ => 0)]
noncomputable def cob (n : Nat) : jcell := .inr (0, [.inr (.inr (some (.inl n))), .inr (.inr (some (.inl (n + 1)))), .inr (.inr (some (.inl (n + 3)))), .inr (.inr (some (.inl (n + 5)))), .inr (.inr (some (.inl (n + 8)))), .inr (.inr (some (.inl (n + 14)))), .inr (.inr (some (.inl (n + 20)))), .inr (.inr (some (.inl (n + 24)))), .inr (.inr (some (.inl (n + 28)))), .inr (.inr (some (.inl (n + 31)))), .inr (.inr (some (.inl (n + 32)))), .inr (.inr (some (.inl (n + 59)))), .inl 0, .inl 0, .inl 0])
theorem aCe_row {K K' : Nat → Nat} {n n' : Nat} {q : FieldType × Nat × (Int × Int) × List (Nat × Nat × Int × Int × Int)} {c : jcell} (h : aCe K n (.inl q) c) : aCe K' n' (.inl q) c := by
  rcases c with ⟨t, m, g | g | g⟩ | y
  · exact h
  · exact h
  · exact h.elim
  · exact h.elim
theorem aCe_zl {K : Nat → Nat} {n m : Nat} {q : Int × Int} {r : List (Nat × Nat × Int × Int × Int)} : aCe K n (.inl (.long, m, q, r)) (.inl (.long, m, .inr (.inl fun _ => 0))) := ⟨rfl, rfl, rfl⟩
theorem kN_0 {K : Nat → Nat} {k : Nat} : ∀ (n : Nat), (∀ a, a < n → ¬ K a = k) → kN K k n = 0
  | 0, _ => rfl
  | n + 1, h => by
    show kN K k n + (if K n = k then 1 else 0) = 0
    rw [kN_0 n (fun a ha => h a (by omega)), if_neg (h n (by omega))]
section CST
variable {K : Nat → Nat} {n N a : Nat} {σ : Nat → jcell} {F1 : Nat → Int32} {A1 : Nat → Nat → Int32} {L1 : Nat → Nat → Int64} {F2 : Nat → Int32} {A2 : Nat → Nat → Int32} {L2 : Nat → Nat → Int64}
/-- the cells of a new object, and their kinds -/
noncomputable def cNew (K : Nat → Nat) (n N a : Nat) (σ : Nat → jcell) (F1 : Nat → Int32) (A1 : Nat → Nat → Int32) (L1 : Nat → Nat → Int64) (F2 : Nat → Int32) (A2 : Nat → Nat → Int32) (L2 : Nat → Nat → Int64) : Prop := a < n ∧ n + 86 ≤ N ∧ K a = 0 ∧ (∀ j, j < 86 → K (n + j) = ckl.getD j 0) ∧ (∀ p, p < N → p ≠ a → ¬ (n ≤ p ∧ p < n + 86) → fo1 (K p) ∧ ¬ gk (K p) ∧ ¬ K p = 998) ∧ σ a = cob n ∧ ∀ j, j < 86 → σ (n + j) = (ccl n F1 A1 L1 F2 A2 L2).getD j (.inr (0, []))
theorem cN_u (h : cNew K n N a σ F1 A1 L1 F2 A2 L2) {p : Nat} (hp : p < N) (hk : ¬ fo1 (K p) ∨ gk (K p) ∨ K p = 998) : p = a ∨ ∃ j, j < 86 ∧ p = n + j := by
  obtain ⟨h1, h2, h3, h4, h5, -⟩ := h
  by_cases e : p = a
  · exact Or.inl e
  · by_cases e2 : n ≤ p ∧ p < n + 86
    · exact Or.inr ⟨p - n, by omega, by omega⟩
    · obtain ⟨q1, q2, q3⟩ := h5 p hp e e2
      rcases hk with hk | hk | hk
      · exact absurd q1 hk
      · exact absurd hk q2
      · exact absurd hk q3
theorem cN_H0 (h : cNew K n N a σ F1 A1 L1 F2 A2 L2) {j : Nat} (hj : j < 32) : ∀ d, fa_T[K (n + j)]? = some d → aCe K N d (σ (n + j)) := by
  obtain ⟨h1, h2, h3, h4, h5, h6, h7⟩ := h
  intro d hd
  rw [h4 j (by omega)] at hd
  rw [h7 j (by omega)]
  have hr : ∀ i, i < 86 → ∀ {b : Bool}, aG K N (.inr (some (.inl (b, ckl.getD i 0)))) (.inr (.inr (some (.inl (n + i))))) := fun i hi b => ⟨by omega, Or.inl (h4 i hi)⟩
  have hr9 : ∀ i, i < 86 → ∀ {b : Bool}, aG K N (.inr (some (.inl (b, 99999)))) (.inr (.inr (some (.inl (n + i))))) := fun i hi b => ⟨by omega, Or.inr rfl⟩
  match j, hj, hd with
  | 0, _, hd =>
    obtain rfl := Option.some.inj hd
    exact aCe_z (by decide) (by decide) (by decide)
  | 1, _, hd =>
    obtain rfl := Option.some.inj hd
    refine ⟨rfl, rfl, fun f t v ht hv => ?_⟩
    match f, ht, hv with
    | 0, ht, hv => cases ht; cases hv; exact hr 2 (by decide)
    | 1, ht, hv => cases ht; cases hv; exact (show aIn _ 0 from ⟨by decide, by decide⟩)
    | f + 2, ht, _ => cases ht
  | 2, _, hd =>
    obtain rfl := Option.some.inj hd
    exact aCe_z (by decide) (by decide) (by decide)
  | 3, _, hd =>
    obtain rfl := Option.some.inj hd
    refine ⟨rfl, rfl, fun f t v ht hv => ?_⟩
    match f, ht, hv with
    | 0, ht, hv => cases ht; cases hv; exact hr 4 (by decide)
    | 1, ht, hv => cases ht; cases hv; exact (show aIn _ 0 from ⟨by decide, by decide⟩)
    | 2, ht, hv => cases ht; cases hv; exact (show aIn _ 0 from ⟨by decide, by decide⟩)
    | 3, ht, hv => cases ht; cases hv; exact rfl
    | 4, ht, hv => cases ht; cases hv; exact (show aIn _ 0 from ⟨by decide, by decide⟩)
    | f + 5, ht, _ => cases ht
  | 4, _, hd =>
    obtain rfl := Option.some.inj hd
    exact aCe_z (by decide) (by decide) (by decide)
  | 5, _, hd =>
    obtain rfl := Option.some.inj hd
    refine ⟨rfl, rfl, fun f t v ht hv => ?_⟩
    match f, ht, hv with
    | 0, ht, hv => cases ht; cases hv; exact hr 6 (by decide)
    | 1, ht, hv => cases ht; cases hv; exact hr 7 (by decide)
    | 2, ht, hv => cases ht; cases hv; exact (show aIn _ 0 from ⟨by decide, by decide⟩)
    | 3, ht, hv => cases ht; cases hv; exact (show aIn _ 0 from ⟨by decide, by decide⟩)
    | 4, ht, hv => cases ht; cases hv; exact (show aIn _ 0 from ⟨by decide, by decide⟩)
    | 5, ht, hv => cases ht; cases hv; exact (show aIn _ 0 from ⟨by decide, by decide⟩)
    | 6, ht, hv => cases ht; cases hv; exact (show aIn _ 0 from ⟨by decide, by decide⟩)
    | 7, ht, hv => cases ht; cases hv; exact (show aIn _ 0 from ⟨by decide, by decide⟩)
    | 8, ht, hv => cases ht; cases hv; exact (show aIn _ 0 from ⟨by decide, by decide⟩)
    | 9, ht, hv => cases ht; cases hv; exact (show aIn _ 0 from ⟨by decide, by decide⟩)
    | 10, ht, hv => cases ht; cases hv; exact (show aIn _ 0 from ⟨by decide, by decide⟩)
    | f + 11, ht, _ => cases ht
  | 6, _, hd =>
    obtain rfl := Option.some.inj hd
    exact aCe_z (by decide) (by decide) (by decide)
  | 7, _, hd =>
    obtain rfl := Option.some.inj hd
    exact aCe_z (by decide) (by decide) (by decide)
  | 8, _, hd =>
    obtain rfl := Option.some.inj hd
    refine ⟨rfl, rfl, fun f t v ht hv => ?_⟩
    match f, ht, hv with
    | 0, ht, hv => cases ht; cases hv; exact (show aIn _ 0 from ⟨by decide, by decide⟩)
    | 1, ht, hv => cases ht; cases hv; exact hr 9 (by decide)
    | 2, ht, hv => cases ht; cases hv; exact hr 12 (by decide)
    | 3, ht, hv => cases ht; cases hv; exact hr 13 (by decide)
    | 4, ht, hv => cases ht; cases hv; exact rfl
    | 5, ht, hv => cases ht; cases hv; exact rfl
    | 6, ht, hv => cases ht; cases hv; exact (show aIn _ 0 from ⟨by decide, by decide⟩)
    | 7, ht, hv => cases ht; cases hv; exact (show aIn _ 0 from ⟨by decide, by decide⟩)
    | 8, ht, hv => cases ht; cases hv; exact (show aIn _ 0 from ⟨by decide, by decide⟩)
    | 9, ht, hv => cases ht; cases hv; exact (show aIn _ 0 from ⟨by decide, by decide⟩)
    | 10, ht, hv => cases ht; cases hv; exact (show aIn _ 0 from ⟨by decide, by decide⟩)
    | 11, ht, hv => cases ht; cases hv; exact (show aIn _ 0 from ⟨by decide, by decide⟩)
    | f + 12, ht, _ => cases ht
  | 9, _, hd =>
    obtain rfl := Option.some.inj hd
    refine ⟨rfl, rfl, fun f t v ht hv => ?_⟩
    match f, ht, hv with
    | 0, ht, hv => cases ht; cases hv; exact hr 10 (by decide)
    | 1, ht, hv => cases ht; cases hv; exact hr 11 (by decide)
    | 2, ht, hv => cases ht; cases hv; exact (show aIn _ 0 from ⟨by decide, by decide⟩)
    | 3, ht, hv => cases ht; cases hv; exact (show aIn _ 0 from ⟨by decide, by decide⟩)
    | 4, ht, hv => cases ht; cases hv; exact (show aIn _ 0 from ⟨by decide, by decide⟩)
    | 5, ht, hv => cases ht; cases hv; exact (show aIn _ 0 from ⟨by decide, by decide⟩)
    | 6, ht, hv => cases ht; cases hv; exact (show aIn _ 0 from ⟨by decide, by decide⟩)
    | 7, ht, hv => cases ht; cases hv; exact (show aIn _ 0 from ⟨by decide, by decide⟩)
    | 8, ht, hv => cases ht; cases hv; exact (show aIn _ 0 from ⟨by decide, by decide⟩)
    | 9, ht, hv => cases ht; cases hv; exact (show aIn _ 0 from ⟨by decide, by decide⟩)
    | 10, ht, hv => cases ht; cases hv; exact (show aIn _ 0 from ⟨by decide, by decide⟩)
    | f + 11, ht, _ => cases ht
  | 10, _, hd =>
    obtain rfl := Option.some.inj hd
    exact aCe_z (by decide) (by decide) (by decide)
  | 11, _, hd =>
    obtain rfl := Option.some.inj hd
    exact aCe_z (by decide) (by decide) (by decide)
  | 12, _, hd =>
    obtain rfl := Option.some.inj hd
    exact aCe_z (by decide) (by decide) (by decide)
  | 13, _, hd =>
    obtain rfl := Option.some.inj hd
    exact aCe_z (by decide) (by decide) (by decide)
  | 14, _, hd =>
    obtain rfl := Option.some.inj hd
    refine ⟨rfl, rfl, fun f t v ht hv => ?_⟩
    match f, ht, hv with
    | 0, ht, hv => cases ht; cases hv; exact hr 15 (by decide)
    | 1, ht, hv => cases ht; cases hv; exact hr 17 (by decide)
    | 2, ht, hv => cases ht; cases hv; exact rfl
    | f + 3, ht, _ => cases ht
  | 15, _, hd =>
    obtain rfl := Option.some.inj hd
    refine ⟨rfl, rfl, fun f t v ht hv => ?_⟩
    match f, ht, hv with
    | 0, ht, hv => cases ht; cases hv; exact hr 16 (by decide)
    | 1, ht, hv => cases ht; cases hv; exact (show aIn _ 0 from ⟨by decide, by decide⟩)
    | f + 2, ht, _ => cases ht
  | 16, _, hd =>
    obtain rfl := Option.some.inj hd
    exact aCe_z (by decide) (by decide) (by decide)
  | 17, _, hd =>
    obtain rfl := Option.some.inj hd
    refine ⟨rfl, rfl, fun f t v ht hv => ?_⟩
    match f, ht, hv with
    | 0, ht, hv => cases ht; cases hv; exact hr 18 (by decide)
    | 1, ht, hv => cases ht; cases hv; exact hr 19 (by decide)
    | 2, ht, hv => cases ht; cases hv; exact (show aIn _ 0 from ⟨by decide, by decide⟩)
    | 3, ht, hv => cases ht; cases hv; exact (show aIn _ 0 from ⟨by decide, by decide⟩)
    | 4, ht, hv => cases ht; cases hv; exact (show aIn _ 0 from ⟨by decide, by decide⟩)
    | 5, ht, hv => cases ht; cases hv; exact (show aIn _ 0 from ⟨by decide, by decide⟩)
    | 6, ht, hv => cases ht; cases hv; exact (show aIn _ 0 from ⟨by decide, by decide⟩)
    | 7, ht, hv => cases ht; cases hv; exact (show aIn _ 0 from ⟨by decide, by decide⟩)
    | 8, ht, hv => cases ht; cases hv; exact (show aIn _ 0 from ⟨by decide, by decide⟩)
    | 9, ht, hv => cases ht; cases hv; exact (show aIn _ 0 from ⟨by decide, by decide⟩)
    | 10, ht, hv => cases ht; cases hv; exact (show aIn _ 0 from ⟨by decide, by decide⟩)
    | f + 11, ht, _ => cases ht
  | 18, _, hd =>
    obtain rfl := Option.some.inj hd
    exact aCe_z (by decide) (by decide) (by decide)
  | 19, _, hd =>
    obtain rfl := Option.some.inj hd
    exact aCe_z (by decide) (by decide) (by decide)
  | 20, _, hd =>
    obtain rfl := Option.some.inj hd
    refine ⟨rfl, rfl, fun f t v ht hv => ?_⟩
    match f, ht, hv with
    | 0, ht, hv => cases ht; cases hv; exact (show aIn _ 0 from ⟨by decide, by decide⟩)
    | 1, ht, hv => cases ht; cases hv; exact hr 21 (by decide)
    | 2, ht, hv => cases ht; cases hv; exact hr 22 (by decide)
    | 3, ht, hv => cases ht; cases hv; exact hr 23 (by decide)
    | 4, ht, hv => cases ht; cases hv; exact (show aIn _ 0 from ⟨by decide, by decide⟩)
    | 5, ht, hv => cases ht; cases hv; exact rfl
    | 6, ht, hv => cases ht; cases hv; exact (show aIn _ 0 from ⟨by decide, by decide⟩)
    | f + 7, ht, _ => cases ht
  | 21, _, hd =>
    obtain rfl := Option.some.inj hd
    exact aCe_z (by decide) (by decide) (by decide)
  | 22, _, hd =>
    obtain rfl := Option.some.inj hd
    exact aCe_z (by decide) (by decide) (by decide)
  | 23, _, hd =>
    obtain rfl := Option.some.inj hd
    exact aCe_zl
  | 24, _, hd =>
    obtain rfl := Option.some.inj hd
    refine ⟨rfl, rfl, fun f t v ht hv => ?_⟩
    match f, ht, hv with
    | 0, ht, hv => cases ht; cases hv; exact (show aIn _ 0 from ⟨by decide, by decide⟩)
    | 1, ht, hv => cases ht; cases hv; exact (show aIn _ 0 from ⟨by decide, by decide⟩)
    | 2, ht, hv => cases ht; cases hv; exact (show aIn _ 0 from ⟨by decide, by decide⟩)
    | 3, ht, hv => cases ht; cases hv; exact (show aIn _ 0 from ⟨by decide, by decide⟩)
    | 4, ht, hv => cases ht; cases hv; exact hr 25 (by decide)
    | 5, ht, hv => cases ht; cases hv; exact hr 26 (by decide)
    | 6, ht, hv => cases ht; cases hv; exact hr 27 (by decide)
    | 7, ht, hv => cases ht; cases hv; exact rfl
    | 8, ht, hv => cases ht; cases hv; exact (show aIn _ 0 from ⟨by decide, by decide⟩)
    | 9, ht, hv => cases ht; cases hv; exact (show aIn _ 0 from ⟨by decide, by decide⟩)
    | f + 10, ht, _ => cases ht
  | 25, _, hd =>
    obtain rfl := Option.some.inj hd
    exact aCe_z (by decide) (by decide) (by decide)
  | 26, _, hd =>
    obtain rfl := Option.some.inj hd
    exact aCe_zl
  | 27, _, hd =>
    obtain rfl := Option.some.inj hd
    exact aCe_z (by decide) (by decide) (by decide)
  | 28, _, hd =>
    obtain rfl := Option.some.inj hd
    refine ⟨rfl, rfl, fun f t v ht hv => ?_⟩
    match f, ht, hv with
    | 0, ht, hv => cases ht; cases hv; exact (show aIn _ 0 from ⟨by decide, by decide⟩)
    | 1, ht, hv => cases ht; cases hv; exact (show aIn _ 0 from ⟨by decide, by decide⟩)
    | 2, ht, hv => cases ht; cases hv; exact hr 29 (by decide)
    | 3, ht, hv => cases ht; cases hv; exact rfl
    | 4, ht, hv => cases ht; cases hv; exact rfl
    | 5, ht, hv => cases ht; cases hv; exact rfl
    | 6, ht, hv => cases ht; cases hv; exact rfl
    | 7, ht, hv => cases ht; cases hv; exact hr9 30 (by decide)
    | 8, ht, hv => cases ht; cases hv; exact (show aIn _ 0 from ⟨by decide, by decide⟩)
    | 9, ht, hv => cases ht; cases hv; exact (show aIn _ 0 from ⟨by decide, by decide⟩)
    | f + 10, ht, _ => cases ht
  | 29, _, hd =>
    obtain rfl := Option.some.inj hd
    exact aCe_z (by decide) (by decide) (by decide)
  | 30, _, hd => cases (show none = some d from hd)
  | 31, _, hd =>
    obtain rfl := Option.some.inj hd
    exact aCe_z (by decide) (by decide) (by decide)
  | j + 32, hj, _ => omega
theorem cN_Ha (h : cNew K n N a σ F1 A1 L1 F2 A2 L2) : aCe K N (.inr (0, [.inr (some (.inl (false, 1))), .inr (some (.inl (false, 2))), .inr (some (.inl (false, 6))), .inr (some (.inl (false, 8))), .inr (some (.inl (false, 11))), .inr (some (.inl (false, 14))), .inr (some (.inl (false, 15))), .inr (some (.inl (false, 19))), .inr (some (.inl (false, 23))), .inr (some (.inl (false, 24))), .inr (some (.inl (false, 99999))), .inr (some (.inl (false, 99999))), .inl (0, 65536), .inl (0, 65538), .inl (-2147483648, 2147483647)])) (σ a) := by
  obtain ⟨h1, h2, h3, h4, h5, h6, h7⟩ := h
  rw [h6]
  have hr : ∀ i, i < 86 → ∀ {b : Bool}, aG K N (.inr (some (.inl (b, ckl.getD i 0)))) (.inr (.inr (some (.inl (n + i))))) := fun i hi b => ⟨by omega, Or.inl (h4 i hi)⟩
  have hr9 : ∀ i, i < 86 → ∀ {b : Bool}, aG K N (.inr (some (.inl (b, 99999)))) (.inr (.inr (some (.inl (n + i))))) := fun i hi b => ⟨by omega, Or.inr rfl⟩
  refine ⟨rfl, rfl, fun f t v ht hv => ?_⟩
  match f, ht, hv with
  | 0, ht, hv => cases ht; cases hv; exact hr 0 (by decide)
  | 1, ht, hv => cases ht; cases hv; exact hr 1 (by decide)
  | 2, ht, hv => cases ht; cases hv; exact hr 3 (by decide)
  | 3, ht, hv => cases ht; cases hv; exact hr 5 (by decide)
  | 4, ht, hv => cases ht; cases hv; exact hr 8 (by decide)
  | 5, ht, hv => cases ht; cases hv; exact hr 14 (by decide)
  | 6, ht, hv => cases ht; cases hv; exact hr 20 (by decide)
  | 7, ht, hv => cases ht; cases hv; exact hr 24 (by decide)
  | 8, ht, hv => cases ht; cases hv; exact hr 28 (by decide)
  | 9, ht, hv => cases ht; cases hv; exact hr 31 (by decide)
  | 10, ht, hv => cases ht; cases hv; exact hr9 32 (by decide)
  | 11, ht, hv => cases ht; cases hv; exact hr9 59 (by decide)
  | 12, ht, hv => cases ht; cases hv; exact (show aIn _ 0 from ⟨by decide, by decide⟩)
  | 13, ht, hv => cases ht; cases hv; exact (show aIn _ 0 from ⟨by decide, by decide⟩)
  | 14, ht, hv => cases ht; cases hv; exact (show aIn _ 0 from ⟨by decide, by decide⟩)
  | f + 15, ht, _ => cases ht
theorem gm_1 {K' : Nat → Nat} (h1 : a < n) (h2 : n + 86 ≤ N) (hK : ∀ j, j < 27 → K' (n + (32 + j)) = 25 + j) (h7 : ∀ j, j < 86 → σ (n + j) = (ccl n F1 A1 L1 F2 A2 L2).getD j (.inr (0, []))) (hT : zFB (n + 33) (n + 34) F1 A1 L1) {j : Nat} (hj : j < 27) : ∀ d, fa_T[25 + j]? = some d → aCe K' N d (σ (n + (32 + j))) := by
  intro d hd
  rw [h7 (32 + j) (by omega)]
  obtain ⟨zH, -, -⟩ := hT σ
  have hr : ∀ i, i < 27 → ∀ {b : Bool}, aG K' N (.inr (some (.inl (b, 25 + i)))) (.inr (.inr (some (.inl (n + (32 + i)))))) := fun i hi b => ⟨by omega, Or.inl (hK i hi)⟩
  have row : ∀ i, i < 11 → ∀ q, fa_T[27 + i]? = some (.inl q) → aCe K' N (.inl q) (bd_c A1 L1 i) := fun i hi q hq => by
    have h9 := zH (n + 34 + i) (by omega) _ (by rw [bKK_r (by omega) hi]; exact hq)
    rw [bd_g (by omega) hi] at h9
    exact aCe_row h9
  match j, hj, hd with
  | 0, _, hd =>
    obtain rfl := Option.some.inj hd
    refine ⟨rfl, rfl, fun f t v ht hv => ?_⟩
    match f, ht, hv with
    | 0, ht, hv => cases ht; cases hv; exact hr 1 (by decide)
    | 1, ht, hv => cases ht; cases hv; exact (show aIn _ 0 from ⟨by decide, by decide⟩)
    | 2, ht, hv => cases ht; cases hv; exact (show aIn _ 0 from ⟨by decide, by decide⟩)
    | 3, ht, hv => cases ht; cases hv; exact hr 13 (by decide)
    | 4, ht, hv => cases ht; cases hv; exact hr 14 (by decide)
    | 5, ht, hv => cases ht; cases hv; exact hr 15 (by decide)
    | 6, ht, hv => cases ht; cases hv; exact hr 16 (by decide)
    | 7, ht, hv => cases ht; cases hv; exact hr 17 (by decide)
    | 8, ht, hv => cases ht; cases hv; exact hr 18 (by decide)
    | 9, ht, hv => cases ht; cases hv; exact hr 19 (by decide)
    | 10, ht, hv => cases ht; cases hv; exact hr 20 (by decide)
    | 11, ht, hv => cases ht; cases hv; exact hr 21 (by decide)
    | 12, ht, hv => cases ht; cases hv; exact hr 22 (by decide)
    | 13, ht, hv => cases ht; cases hv; exact (show aIn _ 0 from ⟨by decide, by decide⟩)
    | 14, ht, hv => cases ht; cases hv; exact hr 23 (by decide)
    | 15, ht, hv => cases ht; cases hv; exact hr 24 (by decide)
    | 16, ht, hv => cases ht; cases hv; exact hr 25 (by decide)
    | 17, ht, hv => cases ht; cases hv; exact hr 26 (by decide)
    | 18, ht, hv => cases ht; cases hv; exact (show aIn _ 0 from ⟨by decide, by decide⟩)
    | f + 19, ht, _ => cases ht
  | 1, _, hd =>
    obtain rfl := Option.some.inj hd
    obtain ⟨fs, e1, e2, e3⟩ := aCe_obj (zH (n + 33) (by omega) _ (by rw [bKK_a]; rfl))
    rw [bd_a] at e1
    obtain rfl := (Prod.mk.inj (Sum.inr.inj e1)).2
    refine ⟨rfl, rfl, fun f t v ht hv => ?_⟩
    match f, ht, hv with
    | 0, ht, hv => cases ht; cases hv; exact hr 2 (by decide)
    | 1, ht, hv => cases ht; cases hv; exact hr 3 (by decide)
    | 2, ht, hv => cases ht; cases hv; exact e3 2 _ _ rfl rfl
    | 3, ht, hv => cases ht; cases hv; exact e3 3 _ _ rfl rfl
    | 4, ht, hv => cases ht; cases hv; exact e3 4 _ _ rfl rfl
    | 5, ht, hv => cases ht; cases hv; exact e3 5 _ _ rfl rfl
    | 6, ht, hv => cases ht; cases hv; exact e3 6 _ _ rfl rfl
    | 7, ht, hv => cases ht; cases hv; exact hr 4 (by decide)
    | 8, ht, hv => cases ht; cases hv; exact hr 5 (by decide)
    | 9, ht, hv => cases ht; cases hv; exact hr 6 (by decide)
    | 10, ht, hv => cases ht; cases hv; exact hr 7 (by decide)
    | 11, ht, hv => cases ht; cases hv; exact hr 8 (by decide)
    | 12, ht, hv => cases ht; cases hv; exact hr 9 (by decide)
    | 13, ht, hv => cases ht; cases hv; exact hr 10 (by decide)
    | 14, ht, hv => cases ht; cases hv; exact hr 11 (by decide)
    | 15, ht, hv => cases ht; cases hv; exact hr 12 (by decide)
    | 16, ht, hv => cases ht; cases hv; exact e3 16 _ _ rfl rfl
    | f + 17, ht, _ => cases ht
  | 2, _, hd =>
    obtain rfl := Option.some.inj hd
    exact row 0 (by decide) _ rfl
  | 3, _, hd =>
    obtain rfl := Option.some.inj hd
    exact row 1 (by decide) _ rfl
  | 4, _, hd =>
    obtain rfl := Option.some.inj hd
    exact row 2 (by decide) _ rfl
  | 5, _, hd =>
    obtain rfl := Option.some.inj hd
    exact row 3 (by decide) _ rfl
  | 6, _, hd =>
    obtain rfl := Option.some.inj hd
    exact row 4 (by decide) _ rfl
  | 7, _, hd =>
    obtain rfl := Option.some.inj hd
    exact row 5 (by decide) _ rfl
  | 8, _, hd =>
    obtain rfl := Option.some.inj hd
    exact row 6 (by decide) _ rfl
  | 9, _, hd =>
    obtain rfl := Option.some.inj hd
    exact row 7 (by decide) _ rfl
  | 10, _, hd =>
    obtain rfl := Option.some.inj hd
    exact row 8 (by decide) _ rfl
  | 11, _, hd =>
    obtain rfl := Option.some.inj hd
    exact row 9 (by decide) _ rfl
  | 12, _, hd =>
    obtain rfl := Option.some.inj hd
    exact row 10 (by decide) _ rfl
  | 13, _, hd =>
    obtain rfl := Option.some.inj hd
    exact aCe_z (by decide) (by decide) (by decide)
  | 14, _, hd =>
    obtain rfl := Option.some.inj hd
    exact aCe_z (by decide) (by decide) (by decide)
  | 15, _, hd =>
    obtain rfl := Option.some.inj hd
    exact aCe_z (by decide) (by decide) (by decide)
  | 16, _, hd =>
    obtain rfl := Option.some.inj hd
    exact aCe_z (by decide) (by decide) (by decide)
  | 17, _, hd =>
    obtain rfl := Option.some.inj hd
    exact aCe_zl
  | 18, _, hd =>
    obtain rfl := Option.some.inj hd
    exact aCe_z (by decide) (by decide) (by decide)
  | 19, _, hd =>
    obtain rfl := Option.some.inj hd
    exact aCe_z (by decide) (by decide) (by decide)
  | 20, _, hd =>
    obtain rfl := Option.some.inj hd
    exact aCe_z (by decide) (by decide) (by decide)
  | 21, _, hd =>
    obtain rfl := Option.some.inj hd
    exact aCe_z (by decide) (by decide) (by decide)
  | 22, _, hd =>
    obtain rfl := Option.some.inj hd
    exact aCe_z (by decide) (by decide) (by decide)
  | 23, _, hd =>
    obtain rfl := Option.some.inj hd
    exact aCe_z (by decide) (by decide) (by decide)
  | 24, _, hd =>
    obtain rfl := Option.some.inj hd
    exact aCe_z (by decide) (by decide) (by decide)
  | 25, _, hd =>
    obtain rfl := Option.some.inj hd
    exact aCe_z (by decide) (by decide) (by decide)
  | 26, _, hd =>
    obtain rfl := Option.some.inj hd
    exact aCe_z (by decide) (by decide) (by decide)
  | j + 27, hj, _ => omega
theorem gx_1 {K' : Nat → Nat} (h1 : a < n) (h2 : n + 86 ≤ N) (hK : ∀ j, j < 27 → K' (n + (32 + j)) = 25 + j) (hu : ∀ p j, p < N → j < 27 → K' p = 25 + j → p = n + (32 + j)) (h7 : ∀ j, j < 86 → σ (n + j) = (ccl n F1 A1 L1 F2 A2 L2).getD j (.inr (0, []))) (hT : zFB (n + 33) (n + 34) F1 A1 L1) : fJX K' N σ ∧ fTG K' N σ (n + 32) := by
  obtain ⟨zH, ⟨z1, z2, z3, z4⟩, q, ⟨a1, a2, fs, r, g, a3, a4, a5, a6, a7, a8, a9, a10, a11, a12, rw9, gw, a13, a14, a15, a16, a17⟩, hq1, hq2, hq3⟩ := hT σ
  have hb : a < n := h1
  refine ⟨⟨fun p hp hk => ?_, fun p hp hk => ?_, fun p hp hk => ?_, fun p hp hk => ?_⟩, ?_⟩
  · obtain rfl := hu p 9 hp (by decide) hk
    obtain ⟨g, g1, g2⟩ := z1 (n + 34 + 7) (by omega) (bKK_r (by omega) (by decide))
    rw [bd_r7 (by omega)] at g1
    exact ⟨g, (h7 41 (by decide)).trans g1, g2⟩
  · obtain rfl := hu p 10 hp (by decide) hk
    obtain ⟨g, g1, g2⟩ := z2 (n + 34 + 8) (by omega) (bKK_r (by omega) (by decide))
    rw [bd_r8 (by omega)] at g1
    exact ⟨g, (h7 42 (by decide)).trans g1, g2⟩
  · obtain rfl := hu p 1 hp (by decide) hk
    exact ⟨n + 34, by omega, by omega, fun j hj => by rw [show n + 34 + j = n + (32 + (2 + j)) by omega, hK (2 + j) (by omega)]; omega, _, h7 33 (by decide), rfl, rfl, rfl, rfl, rfl, rfl, rfl, rfl, rfl, rfl, rfl⟩
  · obtain rfl := hu p 8 hp (by decide) hk
    obtain ⟨g, g1, g2⟩ := z4 (n + 34 + 6) (by omega) (bKK_r (by omega) (by decide))
    rw [bd_r6 (by omega)] at g1
    exact ⟨g, (h7 40 (by decide)).trans g1, g2⟩
  · have hk0 : K' (n + 32) = 25 := hK 0 (by decide)
    have kk : ∀ j, j < 27 → K' (n + (32 + j)) = 25 + j := hK
    have ro : ∀ (f j : Nat), j < 27 → ∀ (g : Nat → Int32), σ (n + (32 + j)) = .inl (.int, 301, .inl g) → (∃ fs, σ (n + 32) = .inr (9, fs) ∧ fs[f]? = some (fR (n + (32 + j)))) → fRo K' N σ (n + 32) f (25 + j) g := fun f j hj g e1 ⟨fs, e2, e3⟩ => ⟨by omega, hk0, fs, n + (32 + j), e2, e3, by omega, kk j hj, e1⟩
    rw [bd_a] at a3
    obtain rfl := (Prod.mk.inj (Sum.inr.inj a3)).2
    obtain rfl : r = n + 34 := by cases a4; rfl
    obtain rfl : rw9 = n + 34 + 3 := by cases a13; rfl
    rw [bd_r0 (by omega)] at a7
    rw [bd_r3 (by omega)] at a16
    refine ⟨n + 33, 0, 0, (fun _ => 0, fun _ => 0, fun _ => 0, fun _ => 0, fun _ => 0), q, ⟨ro 3 13 (by decide) _ (h7 45 (by decide)) ⟨_, h7 32 (by decide), rfl⟩, ro 4 14 (by decide) _ (h7 46 (by decide)) ⟨_, h7 32 (by decide), rfl⟩, ro 5 15 (by decide) _ (h7 47 (by decide)) ⟨_, h7 32 (by decide), rfl⟩, ro 6 16 (by decide) _ (h7 48 (by decide)) ⟨_, h7 32 (by decide), rfl⟩, ⟨by omega, hk0, _, n + 49, h7 32 (by decide), rfl, by omega, kk 17 (by decide), h7 49 (by decide)⟩⟩, ⟨by omega, hk0, _, h7 32 (by decide), rfl⟩, ⟨by omega, hk0, _, h7 32 (by decide), rfl⟩, ⟨by omega, hk0, _, h7 32 (by decide), rfl⟩, by decide, by decide, ⟨Nat.le_refl _, by decide, fun _ => q, fun _ => False, fun _ => [], rfl, ?_⟩, ⟨by omega, kk 1 (by decide), _, n + 34, g, h7 33 (by decide), rfl, by omega, kk 2 (by decide), (h7 34 (by decide)).trans a7, a8, a9, a10, a11, a12, n + 34 + 3, gw, rfl, by omega, kk 5 (by decide), (h7 37 (by decide)).trans a16, a17⟩⟩
    refine ⟨fun k hk => ⟨hq1, hq2, ?_⟩, fun k h1 h2 => ?_, Or.inl rfl, fun k hk => hk.elim, fun k hk => ⟨List.nodup_nil, rfl, fun c hc => by cases hc⟩⟩
    · have : ((0 : Int32).toInt.toNat : Nat) = 0 := rfl
      try dsimp only
      omega
    · have : ((0 : Int32).toInt.toNat : Nat) = 0 := rfl
      try dsimp only
      omega
theorem gm_2 {K' : Nat → Nat} (h1 : a < n) (h2 : n + 86 ≤ N) (hK : ∀ j, j < 27 → K' (n + (59 + j)) = 25 + j) (h7 : ∀ j, j < 86 → σ (n + j) = (ccl n F1 A1 L1 F2 A2 L2).getD j (.inr (0, []))) (hT : zFB (n + 60) (n + 61) F2 A2 L2) {j : Nat} (hj : j < 27) : ∀ d, fa_T[25 + j]? = some d → aCe K' N d (σ (n + (59 + j))) := by
  intro d hd
  rw [h7 (59 + j) (by omega)]
  obtain ⟨zH, -, -⟩ := hT σ
  have hr : ∀ i, i < 27 → ∀ {b : Bool}, aG K' N (.inr (some (.inl (b, 25 + i)))) (.inr (.inr (some (.inl (n + (59 + i)))))) := fun i hi b => ⟨by omega, Or.inl (hK i hi)⟩
  have row : ∀ i, i < 11 → ∀ q, fa_T[27 + i]? = some (.inl q) → aCe K' N (.inl q) (bd_c A2 L2 i) := fun i hi q hq => by
    have h9 := zH (n + 61 + i) (by omega) _ (by rw [bKK_r (by omega) hi]; exact hq)
    rw [bd_g (by omega) hi] at h9
    exact aCe_row h9
  match j, hj, hd with
  | 0, _, hd =>
    obtain rfl := Option.some.inj hd
    refine ⟨rfl, rfl, fun f t v ht hv => ?_⟩
    match f, ht, hv with
    | 0, ht, hv => cases ht; cases hv; exact hr 1 (by decide)
    | 1, ht, hv => cases ht; cases hv; exact (show aIn _ 0 from ⟨by decide, by decide⟩)
    | 2, ht, hv => cases ht; cases hv; exact (show aIn _ 0 from ⟨by decide, by decide⟩)
    | 3, ht, hv => cases ht; cases hv; exact hr 13 (by decide)
    | 4, ht, hv => cases ht; cases hv; exact hr 14 (by decide)
    | 5, ht, hv => cases ht; cases hv; exact hr 15 (by decide)
    | 6, ht, hv => cases ht; cases hv; exact hr 16 (by decide)
    | 7, ht, hv => cases ht; cases hv; exact hr 17 (by decide)
    | 8, ht, hv => cases ht; cases hv; exact hr 18 (by decide)
    | 9, ht, hv => cases ht; cases hv; exact hr 19 (by decide)
    | 10, ht, hv => cases ht; cases hv; exact hr 20 (by decide)
    | 11, ht, hv => cases ht; cases hv; exact hr 21 (by decide)
    | 12, ht, hv => cases ht; cases hv; exact hr 22 (by decide)
    | 13, ht, hv => cases ht; cases hv; exact (show aIn _ 0 from ⟨by decide, by decide⟩)
    | 14, ht, hv => cases ht; cases hv; exact hr 23 (by decide)
    | 15, ht, hv => cases ht; cases hv; exact hr 24 (by decide)
    | 16, ht, hv => cases ht; cases hv; exact hr 25 (by decide)
    | 17, ht, hv => cases ht; cases hv; exact hr 26 (by decide)
    | 18, ht, hv => cases ht; cases hv; exact (show aIn _ 0 from ⟨by decide, by decide⟩)
    | f + 19, ht, _ => cases ht
  | 1, _, hd =>
    obtain rfl := Option.some.inj hd
    obtain ⟨fs, e1, e2, e3⟩ := aCe_obj (zH (n + 60) (by omega) _ (by rw [bKK_a]; rfl))
    rw [bd_a] at e1
    obtain rfl := (Prod.mk.inj (Sum.inr.inj e1)).2
    refine ⟨rfl, rfl, fun f t v ht hv => ?_⟩
    match f, ht, hv with
    | 0, ht, hv => cases ht; cases hv; exact hr 2 (by decide)
    | 1, ht, hv => cases ht; cases hv; exact hr 3 (by decide)
    | 2, ht, hv => cases ht; cases hv; exact e3 2 _ _ rfl rfl
    | 3, ht, hv => cases ht; cases hv; exact e3 3 _ _ rfl rfl
    | 4, ht, hv => cases ht; cases hv; exact e3 4 _ _ rfl rfl
    | 5, ht, hv => cases ht; cases hv; exact e3 5 _ _ rfl rfl
    | 6, ht, hv => cases ht; cases hv; exact e3 6 _ _ rfl rfl
    | 7, ht, hv => cases ht; cases hv; exact hr 4 (by decide)
    | 8, ht, hv => cases ht; cases hv; exact hr 5 (by decide)
    | 9, ht, hv => cases ht; cases hv; exact hr 6 (by decide)
    | 10, ht, hv => cases ht; cases hv; exact hr 7 (by decide)
    | 11, ht, hv => cases ht; cases hv; exact hr 8 (by decide)
    | 12, ht, hv => cases ht; cases hv; exact hr 9 (by decide)
    | 13, ht, hv => cases ht; cases hv; exact hr 10 (by decide)
    | 14, ht, hv => cases ht; cases hv; exact hr 11 (by decide)
    | 15, ht, hv => cases ht; cases hv; exact hr 12 (by decide)
    | 16, ht, hv => cases ht; cases hv; exact e3 16 _ _ rfl rfl
    | f + 17, ht, _ => cases ht
  | 2, _, hd =>
    obtain rfl := Option.some.inj hd
    exact row 0 (by decide) _ rfl
  | 3, _, hd =>
    obtain rfl := Option.some.inj hd
    exact row 1 (by decide) _ rfl
  | 4, _, hd =>
    obtain rfl := Option.some.inj hd
    exact row 2 (by decide) _ rfl
  | 5, _, hd =>
    obtain rfl := Option.some.inj hd
    exact row 3 (by decide) _ rfl
  | 6, _, hd =>
    obtain rfl := Option.some.inj hd
    exact row 4 (by decide) _ rfl
  | 7, _, hd =>
    obtain rfl := Option.some.inj hd
    exact row 5 (by decide) _ rfl
  | 8, _, hd =>
    obtain rfl := Option.some.inj hd
    exact row 6 (by decide) _ rfl
  | 9, _, hd =>
    obtain rfl := Option.some.inj hd
    exact row 7 (by decide) _ rfl
  | 10, _, hd =>
    obtain rfl := Option.some.inj hd
    exact row 8 (by decide) _ rfl
  | 11, _, hd =>
    obtain rfl := Option.some.inj hd
    exact row 9 (by decide) _ rfl
  | 12, _, hd =>
    obtain rfl := Option.some.inj hd
    exact row 10 (by decide) _ rfl
  | 13, _, hd =>
    obtain rfl := Option.some.inj hd
    exact aCe_z (by decide) (by decide) (by decide)
  | 14, _, hd =>
    obtain rfl := Option.some.inj hd
    exact aCe_z (by decide) (by decide) (by decide)
  | 15, _, hd =>
    obtain rfl := Option.some.inj hd
    exact aCe_z (by decide) (by decide) (by decide)
  | 16, _, hd =>
    obtain rfl := Option.some.inj hd
    exact aCe_z (by decide) (by decide) (by decide)
  | 17, _, hd =>
    obtain rfl := Option.some.inj hd
    exact aCe_zl
  | 18, _, hd =>
    obtain rfl := Option.some.inj hd
    exact aCe_z (by decide) (by decide) (by decide)
  | 19, _, hd =>
    obtain rfl := Option.some.inj hd
    exact aCe_z (by decide) (by decide) (by decide)
  | 20, _, hd =>
    obtain rfl := Option.some.inj hd
    exact aCe_z (by decide) (by decide) (by decide)
  | 21, _, hd =>
    obtain rfl := Option.some.inj hd
    exact aCe_z (by decide) (by decide) (by decide)
  | 22, _, hd =>
    obtain rfl := Option.some.inj hd
    exact aCe_z (by decide) (by decide) (by decide)
  | 23, _, hd =>
    obtain rfl := Option.some.inj hd
    exact aCe_z (by decide) (by decide) (by decide)
  | 24, _, hd =>
    obtain rfl := Option.some.inj hd
    exact aCe_z (by decide) (by decide) (by decide)
  | 25, _, hd =>
    obtain rfl := Option.some.inj hd
    exact aCe_z (by decide) (by decide) (by decide)
  | 26, _, hd =>
    obtain rfl := Option.some.inj hd
    exact aCe_z (by decide) (by decide) (by decide)
  | j + 27, hj, _ => omega
theorem gx_2 {K' : Nat → Nat} (h1 : a < n) (h2 : n + 86 ≤ N) (hK : ∀ j, j < 27 → K' (n + (59 + j)) = 25 + j) (hu : ∀ p j, p < N → j < 27 → K' p = 25 + j → p = n + (59 + j)) (h7 : ∀ j, j < 86 → σ (n + j) = (ccl n F1 A1 L1 F2 A2 L2).getD j (.inr (0, []))) (hT : zFB (n + 60) (n + 61) F2 A2 L2) : fJX K' N σ ∧ fTG K' N σ (n + 59) := by
  obtain ⟨zH, ⟨z1, z2, z3, z4⟩, q, ⟨a1, a2, fs, r, g, a3, a4, a5, a6, a7, a8, a9, a10, a11, a12, rw9, gw, a13, a14, a15, a16, a17⟩, hq1, hq2, hq3⟩ := hT σ
  have hb : a < n := h1
  refine ⟨⟨fun p hp hk => ?_, fun p hp hk => ?_, fun p hp hk => ?_, fun p hp hk => ?_⟩, ?_⟩
  · obtain rfl := hu p 9 hp (by decide) hk
    obtain ⟨g, g1, g2⟩ := z1 (n + 61 + 7) (by omega) (bKK_r (by omega) (by decide))
    rw [bd_r7 (by omega)] at g1
    exact ⟨g, (h7 68 (by decide)).trans g1, g2⟩
  · obtain rfl := hu p 10 hp (by decide) hk
    obtain ⟨g, g1, g2⟩ := z2 (n + 61 + 8) (by omega) (bKK_r (by omega) (by decide))
    rw [bd_r8 (by omega)] at g1
    exact ⟨g, (h7 69 (by decide)).trans g1, g2⟩
  · obtain rfl := hu p 1 hp (by decide) hk
    exact ⟨n + 61, by omega, by omega, fun j hj => by rw [show n + 61 + j = n + (59 + (2 + j)) by omega, hK (2 + j) (by omega)]; omega, _, h7 60 (by decide), rfl, rfl, rfl, rfl, rfl, rfl, rfl, rfl, rfl, rfl, rfl⟩
  · obtain rfl := hu p 8 hp (by decide) hk
    obtain ⟨g, g1, g2⟩ := z4 (n + 61 + 6) (by omega) (bKK_r (by omega) (by decide))
    rw [bd_r6 (by omega)] at g1
    exact ⟨g, (h7 67 (by decide)).trans g1, g2⟩
  · have hk0 : K' (n + 59) = 25 := hK 0 (by decide)
    have kk : ∀ j, j < 27 → K' (n + (59 + j)) = 25 + j := hK
    have ro : ∀ (f j : Nat), j < 27 → ∀ (g : Nat → Int32), σ (n + (59 + j)) = .inl (.int, 301, .inl g) → (∃ fs, σ (n + 59) = .inr (9, fs) ∧ fs[f]? = some (fR (n + (59 + j)))) → fRo K' N σ (n + 59) f (25 + j) g := fun f j hj g e1 ⟨fs, e2, e3⟩ => ⟨by omega, hk0, fs, n + (59 + j), e2, e3, by omega, kk j hj, e1⟩
    rw [bd_a] at a3
    obtain rfl := (Prod.mk.inj (Sum.inr.inj a3)).2
    obtain rfl : r = n + 61 := by cases a4; rfl
    obtain rfl : rw9 = n + 61 + 3 := by cases a13; rfl
    rw [bd_r0 (by omega)] at a7
    rw [bd_r3 (by omega)] at a16
    refine ⟨n + 60, 0, 0, (fun _ => 0, fun _ => 0, fun _ => 0, fun _ => 0, fun _ => 0), q, ⟨ro 3 13 (by decide) _ (h7 72 (by decide)) ⟨_, h7 59 (by decide), rfl⟩, ro 4 14 (by decide) _ (h7 73 (by decide)) ⟨_, h7 59 (by decide), rfl⟩, ro 5 15 (by decide) _ (h7 74 (by decide)) ⟨_, h7 59 (by decide), rfl⟩, ro 6 16 (by decide) _ (h7 75 (by decide)) ⟨_, h7 59 (by decide), rfl⟩, ⟨by omega, hk0, _, n + 76, h7 59 (by decide), rfl, by omega, kk 17 (by decide), h7 76 (by decide)⟩⟩, ⟨by omega, hk0, _, h7 59 (by decide), rfl⟩, ⟨by omega, hk0, _, h7 59 (by decide), rfl⟩, ⟨by omega, hk0, _, h7 59 (by decide), rfl⟩, by decide, by decide, ⟨Nat.le_refl _, by decide, fun _ => q, fun _ => False, fun _ => [], rfl, ?_⟩, ⟨by omega, kk 1 (by decide), _, n + 61, g, h7 60 (by decide), rfl, by omega, kk 2 (by decide), (h7 61 (by decide)).trans a7, a8, a9, a10, a11, a12, n + 61 + 3, gw, rfl, by omega, kk 5 (by decide), (h7 64 (by decide)).trans a16, a17⟩⟩
    refine ⟨fun k hk => ⟨hq1, hq2, ?_⟩, fun k h1 h2 => ?_, Or.inl rfl, fun k hk => hk.elim, fun k hk => ⟨List.nodup_nil, rfl, fun c hc => by cases hc⟩⟩
    · have : ((0 : Int32).toInt.toNat : Nat) = 0 := rfl
      try dsimp only
      omega
    · have : ((0 : Int32).toInt.toNat : Nat) = 0 := rfl
      try dsimp only
      omega
theorem ckl_1 : ∀ i, i < 86 → (i < 32 → ckl.getD i 0 < 25 ∧ 0 < ckl.getD i 0 ∨ ckl.getD i 0 = 998) ∧ (32 ≤ i → i < 59 → ckl.getD i 0 = 25 + (i - 32)) ∧ (59 ≤ i → ckl.getD i 0 = 1025 + (i - 59)) := by decide +kernel
theorem ckl_e : ∀ i, i < 86 → (ckl.getD i 0 = 23 → i = 28) ∧ (ckl.getD i 0 = 6 → i = 3) ∧ ¬ ckl.getD i 0 = 114 ∧ ¬ ckl.getD i 0 = 52 ∧ ¬ ckl.getD i 0 = 53 ∧ ¬ ckl.getD i 0 = 54 ∧ ¬ ckl.getD i 0 = 0 := by decide +kernel
set_option maxHeartbeats 4000000 in
theorem cN_I (h : cNew K n N a σ F1 A1 L1 F2 A2 L2) (hO : ∀ p, p < N → p ≠ a → ¬ (n ≤ p ∧ p < n + 86) → zPl (σ p) ∧ ∀ d, fa_T[K p]? = some d → aCe K N d (σ p)) (hT1 : zFB (n + 33) (n + 34) F1 A1 L1) (hT2 : zFB (n + 60) (n + 61) F2 A2 L2) : cI K N σ a (n + 28) ∧ uW K N (n + 3) := by
  have hh := h
  obtain ⟨h1, h2, h3, h4, h5, h6, h7⟩ := hh
  have k1 : ∀ j, j < 27 → K (n + (32 + j)) = 25 + j := fun j hj => by
    rw [h4 (32 + j) (by omega), (ckl_1 (32 + j) (by omega)).2.1 (by omega) (by omega)]
    omega
  have k2 : ∀ j, j < 27 → K (n + (59 + j)) = 1025 + j := fun j hj => by
    rw [h4 (59 + j) (by omega), (ckl_1 (59 + j) (by omega)).2.2 (by omega)]
    omega
  have k3 : ∀ j, j < 27 → cK K (n + (59 + j)) = 25 + j := fun j hj => by
    show sK (K (n + (59 + j))) = _
    rw [k2 j hj, sK_dn (by omega)]
    omega
  have u1 : ∀ p j, p < N → j < 27 → K p = 25 + j → p = n + (32 + j) := fun p j hp hj hk => by
    rcases cN_u h hp (Or.inr (Or.inl (by rw [hk]; unfold gk; omega))) with rfl | ⟨i, hi, rfl⟩
    · omega
    · rw [h4 i hi] at hk
      obtain ⟨q1, q2, q3⟩ := ckl_1 i hi
      by_cases e1 : i < 32
      · have := q1 e1
        omega
      · by_cases e2 : i < 59
        · have := q2 (by omega) e2
          omega
        · have := q3 (by omega)
          omega
  have u2 : ∀ p j, p < N → j < 27 → cK K p = 25 + j → p = n + (59 + j) := fun p j hp hj hk => by
    have hk9 : 1025 ≤ K p ∧ K p ≤ 1051 := cK_sp.mp ⟨by omega, by omega⟩
    have hk8 : K p = 1025 + j := by
      have e : cK K p = K p - 1000 := sK_dn hk9
      omega
    rcases cN_u h hp (Or.inr (Or.inl (Or.inr hk9))) with rfl | ⟨i, hi, rfl⟩
    · omega
    · rw [h4 i hi] at hk8
      obtain ⟨q1, q2, q3⟩ := ckl_1 i hi
      by_cases e1 : i < 32
      · have := q1 e1
        omega
      · by_cases e2 : i < 59
        · have := q2 (by omega) e2
          omega
        · have := q3 (by omega)
          omega
  obtain ⟨x1, t1⟩ := gx_1 (K' := K) h1 h2 k1 u1 h7 hT1
  obtain ⟨x2, -⟩ := gx_2 (K' := cK K) h1 h2 k3 u2 h7 hT2
  have hH : aH fa_T K N σ := by
    intro p hp d hd
    by_cases e : p = a
    · subst e
      rw [h3] at hd
      obtain rfl := Option.some.inj hd
      exact cN_Ha h
    · by_cases e2 : n ≤ p ∧ p < n + 86
      · obtain ⟨j, rfl⟩ := Nat.exists_eq_add_of_le e2.1
        by_cases e3 : j < 32
        · exact cN_H0 h e3 d hd
        · by_cases e4 : j < 59
          · obtain ⟨i, rfl⟩ := Nat.exists_eq_add_of_le (Nat.le_of_not_lt e3)
            rw [k1 i (by omega)] at hd
            exact gm_1 (K' := K) h1 h2 k1 h7 hT1 (by omega) d hd
          · obtain ⟨i, rfl⟩ := Nat.exists_eq_add_of_le (Nat.le_of_not_lt e4)
            rw [k2 i (by omega), List.getElem?_eq_none (by rw [kT_len]; omega)] at hd
            cases hd
      · exact (hO p hp e e2).2 d hd
  have hH2 : aH fa_T (cK K) N σ := by
    intro p hp d hd
    by_cases g1 : 25 ≤ K p ∧ K p ≤ 51
    · have e : cK K p = K p + 1000 := sK_up g1
      rw [e, List.getElem?_eq_none (by rw [kT_len]; omega)] at hd
      cases hd
    · by_cases g2 : 1025 ≤ K p ∧ K p ≤ 1051
      · have e : cK K p = K p - 1000 := sK_dn g2
        have hp9 := u2 p (K p - 1025) hp (by omega) (by omega)
        rw [e, show K p - 1000 = 25 + (K p - 1025) by omega] at hd
        rw [hp9]
        exact gm_2 (K' := cK K) h1 h2 k3 h7 hT2 (by omega) d hd
      · have e : cK K p = K p := sK_id g1 g2
        rw [e] at hd
        exact aCe_cK (kT_at hd g1) (hH p hp d hd)
  have no : ∀ k, (k = 114 ∨ k = 52 ∨ k = 53 ∨ k = 54) → ∀ p, p < N → ¬ K p = k := fun k hk p hp e => by
    rcases cN_u h hp (Or.inl (by rw [e]; unfold fo1; omega)) with rfl | ⟨i, hi, rfl⟩
    · omega
    · rw [h4 i hi] at e
      obtain ⟨-, -, q1, q2, q3, q4, -⟩ := ckl_e i hi
      rcases hk with rfl | rfl | rfl | rfl
      · exact q1 e
      · exact q2 e
      · exact q3 e
      · exact q4 e
  have hz : ∀ p, p < N → zPl (σ p) := zP_of hH (fun p hp hk => by
    by_cases e : p = a
    · rw [e, h3] at hk
      omega
    · by_cases e2 : n ≤ p ∧ p < n + 86
      · obtain ⟨j, rfl⟩ := Nat.exists_eq_add_of_le e2.1
        rw [h7 j (by omega)]
        exact zPl_all (cs := ccl n F1 A1 L1 F2 A2 L2) rfl _ (by
          rw [List.getD, List.getElem?_eq_getElem (show j < (ccl n F1 A1 L1 F2 A2 L2).length by show j < 86; omega)]
          exact List.getElem_mem _)
      · exact (hO p hp e e2).1)
  refine ⟨⟨hH, hH2, x1, x2, ⟨by omega, h4 28 (by decide), fun p hp hk => ?_, n + 30, _, .inr (.inr none), .inr (.inr none), .inr (.inr none), h7 28 (by decide), rfl, rfl, rfl, rfl, by omega, ?_⟩, hz, by omega, h3, _, n + 32, n + 59, h6, rfl, rfl, by omega, h4 32 (by decide), by omega, h4 59 (by decide), t1⟩, by omega, h4 3 (by decide), fun p hp hk => ?_⟩
  · rcases cN_u h hp (Or.inl (by rw [hk]; unfold fo1; omega)) with rfl | ⟨i, hi, rfl⟩
    · omega
    · rw [h4 i hi] at hk
      rw [(ckl_e i hi).1 hk]
  · unfold cQ
    rw [kN_0 N (no 114 (by simp)), kN_0 N (no 52 (by simp)), kN_0 N (no 53 (by simp)), kN_0 N (no 54 (by simp))]
    exact ⟨Nat.le_refl _, Nat.le_refl _, Or.inl ⟨h4 30 (by decide), ⟨_, h7 30 (by decide)⟩, rfl, rfl⟩⟩
  · rcases cN_u h hp (Or.inl (by rw [hk]; unfold fo1; omega)) with rfl | ⟨i, hi, rfl⟩
    · omega
    · rw [h4 i hi] at hk
      rw [(ckl_e i hi).2.1 hk]
end CST
