/-! what stands when the object of the reference has been made -/
noncomputable def rkl : List Nat := [56, 57, 62, 63, 64, 65, 66, 67, 68, 69, 70, 71, 72, 73, 74, 75, 76, 77, 78, 79, 80, 81, 82, 83, 84, 85, 86, 87, 88, 89, 90, 91, 92, 93, 94, 95, 96, 97, 98, 99, 100, 101, 102, 103, 104, 105, 106, 107, 108, 58, 59, 60, 61]
noncomputable def rcl (n : Nat) (F : Nat → Int32) (A : Nat → Nat → Int32) : List jcell := [.inl (.byte, 65536, .inl fun _ => 0), .inl (.byte, 65536, .inl fun _ => 0), .inr (12, [.inl (F 0), .inl (F 1), .inr (.inr (some (.inl (n + 3)))), .inl (F 3), .inr (.inr (some (.inl (n + 4)))), .inl (F 5), .inl (F 6), .inr (.inr (some (.inl (n + 5)))), .inr (.inr (some (.inl (n + 6)))), .inr (.inr (some (.inl (n + 7)))), .inr (.inr (some (.inl (n + 8)))), .inr (.inr (some (.inl (n + 9)))), .inr (.inr (some (.inl (n + 10)))), .inr (.inr (some (.inl (n + 11)))), .inr (.inr (some (.inl (n + 12)))), .inr (.inr (some (.inl (n + 13)))), .inr (.inr (some (.inl (n + 14)))), .inr (.inr (some (.inl (n + 15)))), .inr (.inr (some (.inl (n + 16)))), .inr (.inr (some (.inl (n + 17)))), .inr (.inr (some (.inl (n + 18)))), .inr (.inr (some (.inl (n + 19)))), .inr (.inr (some (.inl (n + 20)))), .inr (.inr (some (.inl (n + 21)))), .inr (.inr (some (.inl (n + 22)))), .inl (F 25), .inl (F 26), .inl (F 27), .inl (F 28), .inl (F 29), .inr (.inr (some (.inl (n + 23)))), .inr (.inr (some (.inl (n + 24)))), .inr (.inr (some (.inl (n + 25)))), .inl (F 33), .inr (.inr (some (.inl (n + 26)))), .inr (.inr (some (.inl (n + 27)))), .inl (F 36), .inl (F 37), .inl (F 38), .inl (F 39)]), .inl (.char, 65536, .inl (A 0)), .inl (.char, 80000, .inl (A 1)), .inl (.int, 2, .inl (A 2)), .inl (.int, 602, .inl (A 3)), .inl (.int, 602, .inl (A 4)), .inl (.int, 602, .inl (A 5)), .inl (.int, 602, .inl (A 6)), .inl (.int, 602, .inl (A 7)), .inl (.int, 2408, .inl (A 8)), .inl (.int, 602, .inl (A 9)), .inl (.char, 120400, .inl (A 10)), .inl (.int, 128, .inl (A 11)), .inl (.int, 10, .inl (A 12)), .inl (.int, 2, .inl (A 13)), .inl (.int, 16, .inl (A 14)), .inl (.char, 192, .inl (A 15)), .inl (.int, 16, .inl (A 16)), .inl (.char, 1536, .inl (A 17)), .inl (.int, 2, .inl (A 18)), .inl (.int, 64, .inl (A 19)), .inl (.int, 64, .inl (A 20)), .inl (.int, 5, .inl (A 21)), .inl (.int, 2048, .inl (A 22)), .inl (.int, 301, .inl (A 23)), .inl (.char, 16, .inl (A 24)), .inr (13, [.inl 0, .inr (.inr (some (.inl (n + 29)))), .inr (.inr (some (.inl (n + 30)))), .inl 0, .inl 0, .inl (-1), .inl 0, .inl 0, .inl 0, .inr (.inr (some (.inl (n + 31)))), .inr (.inr (some (.inl (n + 32)))), .inr (.inr (some (.inl (n + 33)))), .inr (.inr (some (.inl (n + 34)))), .inr (.inr (some (.inl (n + 35)))), .inr (.inr (some (.inl (n + 36)))), .inr (.inr (some (.inl (n + 37)))), .inr (.inr (some (.inl (n + 38)))), .inr (.inr (some (.inl (n + 39)))), .inr (.inr (some (.inl (n + 40)))), .inr (.inr (some (.inl (n + 41)))), .inr (.inr (some (.inl (n + 42)))), .inr (.inr (some (.inl (n + 43)))), .inr (.inr (some (.inl (n + 44)))), .inl 0, .inl 0, .inl 0, .inl 0, .inl 0, .inr (.inr (some (.inl (n + 45)))), .inl 0, .inr (.inr (some (.inl (n + 46)))), .inl 0, .inl 0, .inr (.inr (some (.inl (n + 47)))), .inr (.inr (some (.inl (n + 48)))), .inr (.inr none), .inl 0]), .inl (.char, 65536, .inl fun _ => 0), .inl (.int, 64, .inl fun _ => 0), .inl (.int, 19520, .inl fun _ => 0), .inl (.int, 305, .inl fun _ => 0), .inl (.int, 305, .inl fun _ => 0), .inl (.int, 305, .inl fun _ => 0), .inl (.int, 305, .inl fun _ => 0), .inl (.int, 305, .inl fun _ => 0), .inl (.int, 11, .inl fun _ => 0), .inl (.int, 11, .inl fun _ => 0), .inl (.int, 11, .inl fun _ => 0), .inl (.int, 11, .inl fun _ => 0), .inl (.int, 11, .inl fun _ => 0), .inl (.int, 11, .inl fun _ => 0), .inl (.int, 20480, .inl fun _ => 0), .inl (.int, 10, .inl fun _ => 0), .inl (.int, 4, .inl fun _ => 0), .inl (.int, 2048, .inl fun _ => 0), .inl (.int, 4, .inl fun _ => 0), .inl (.int, 4, .inl fun _ => 0), .inl (.int, 32768, .inl fun _ => 0), .inl (.int, 32768, .inl fun _ => 0), .inl (.int, 301, .inl fun _ => 0), .inl (.char, 100, .inl fun _ => 0)]
noncomputable def rob (n : Nat) : jcell := .inr (11, [.inl 0, .inl 0, .inr (.inr (some (.inl n))), .inl 0, .inr (.inr (some (.inl (n + 1)))), .inr (.inr (some (.inl (n + 2)))), .inr (.inr (some (.inl (n + 28)))), .inr (.inr none), .inl 0, .inl 0, .inl 0, .inl 0, .inl 0, .inl 0, .inr (.inr (some (.inl (n + 49)))), .inr (.inr (some (.inl (n + 50)))), .inl 0, .inr (.inr (some (.inl (n + 51)))), .inr (.inr (some (.inl (n + 52))))])
theorem aCe_zr {K : Nat → Nat} {n m : Nat} {ty : FieldType} {q : Int × Int} {r : List (Nat × Nat × Int × Int × Int)} (hty : ¬ ty = .long) (h1 : q.1 ≤ 0) (h2 : 0 ≤ q.2) (hr : r = []) : aCe K n (.inl (ty, m, q, r)) (.inl (ty, m, .inl fun _ => 0)) := by
  subst hr
  exact aCe_z hty h1 h2
section RST
variable {K : Nat → Nat} {n N a : Nat} {σ : Nat → jcell} {F : Nat → Int32} {A : Nat → Nat → Int32}
noncomputable def rNew (K : Nat → Nat) (n N a : Nat) (σ : Nat → jcell) (F : Nat → Int32) (A : Nat → Nat → Int32) : Prop := a < n ∧ n + 53 ≤ N ∧ K a = 55 ∧ (∀ j, j < 53 → K (n + j) = rkl.getD j 0) ∧ σ a = rob n ∧ ∀ j, j < 53 → σ (n + j) = (rcl n F A).getD j (.inr (0, []))
set_option maxHeartbeats 4000000 in
theorem rN_H (h : rNew K n N a σ F A) (hT : zFA (n + 2) (n + 3) F A) {j : Nat} (hj : j < 53) : ∀ d, fa_T[rkl.getD j 0]? = some d → aCe K N d (σ (n + j)) := by
  obtain ⟨h1, h2, h3, h4, h6, h7⟩ := h
  intro d hd
  rw [h7 j hj]
  obtain ⟨zH, -⟩ := hT σ
  have hr : ∀ i, i < 53 → ∀ {b : Bool}, aG K N (.inr (some (.inl (b, rkl.getD i 0)))) (.inr (.inr (some (.inl (n + i))))) := fun i hi b => ⟨by omega, Or.inl (h4 i hi)⟩
  have row : ∀ i, i < 25 → ∀ q c, fa_T[63 + i]? = some (.inl q) → txA σ (n + 2) (n + 3) F A (n + 3 + i) = c → aCe K N (.inl q) c := fun i hi q c hq hc => by
    have h9 := zH (n + 3 + i) (by omega) _ (by rw [zKT_r (by omega)]; exact hq)
    rw [hc] at h9
    exact aCe_row h9
  match j, hj, hd with
  | 0, _, hd =>
    obtain rfl := Option.some.inj hd
    exact aCe_zr (by decide) (by decide) (by decide) rfl
  | 1, _, hd =>
    obtain rfl := Option.some.inj hd
    exact aCe_zr (by decide) (by decide) (by decide) rfl
  | 2, _, hd =>
    obtain rfl := Option.some.inj hd
    obtain ⟨fs, e1, e2, e3⟩ := aCe_obj (zH (n + 2) (by omega) _ (by rw [zKT_a]; rfl))
    rw [ta_a] at e1
    obtain rfl := (Prod.mk.inj (Sum.inr.inj e1)).2
    refine ⟨rfl, rfl, fun f t v ht hv => ?_⟩
    match f, ht, hv with
    | 0, ht, hv => cases ht; cases hv; exact e3 0 _ _ rfl rfl
    | 1, ht, hv => cases ht; cases hv; exact e3 1 _ _ rfl rfl
    | 2, ht, hv => cases ht; cases hv; exact hr 3 (by decide)
    | 3, ht, hv => cases ht; cases hv; exact e3 3 _ _ rfl rfl
    | 4, ht, hv => cases ht; cases hv; exact hr 4 (by decide)
    | 5, ht, hv => cases ht; cases hv; exact e3 5 _ _ rfl rfl
    | 6, ht, hv => cases ht; cases hv; exact e3 6 _ _ rfl rfl
    | 7, ht, hv => cases ht; cases hv; exact hr 5 (by decide)
    | 8, ht, hv => cases ht; cases hv; exact hr 6 (by decide)
    | 9, ht, hv => cases ht; cases hv; exact hr 7 (by decide)
    | 10, ht, hv => cases ht; cases hv; exact hr 8 (by decide)
    | 11, ht, hv => cases ht; cases hv; exact hr 9 (by decide)
    | 12, ht, hv => cases ht; cases hv; exact hr 10 (by decide)
    | 13, ht, hv => cases ht; cases hv; exact hr 11 (by decide)
    | 14, ht, hv => cases ht; cases hv; exact hr 12 (by decide)
    | 15, ht, hv => cases ht; cases hv; exact hr 13 (by decide)
    | 16, ht, hv => cases ht; cases hv; exact hr 14 (by decide)
    | 17, ht, hv => cases ht; cases hv; exact hr 15 (by decide)
    | 18, ht, hv => cases ht; cases hv; exact hr 16 (by decide)
    | 19, ht, hv => cases ht; cases hv; exact hr 17 (by decide)
    | 20, ht, hv => cases ht; cases hv; exact hr 18 (by decide)
    | 21, ht, hv => cases ht; cases hv; exact hr 19 (by decide)
    | 22, ht, hv => cases ht; cases hv; exact hr 20 (by decide)
    | 23, ht, hv => cases ht; cases hv; exact hr 21 (by decide)
    | 24, ht, hv => cases ht; cases hv; exact hr 22 (by decide)
    | 25, ht, hv => cases ht; cases hv; exact e3 25 _ _ rfl rfl
    | 26, ht, hv => cases ht; cases hv; exact e3 26 _ _ rfl rfl
    | 27, ht, hv => cases ht; cases hv; exact e3 27 _ _ rfl rfl
    | 28, ht, hv => cases ht; cases hv; exact e3 28 _ _ rfl rfl
    | 29, ht, hv => cases ht; cases hv; exact e3 29 _ _ rfl rfl
    | 30, ht, hv => cases ht; cases hv; exact hr 23 (by decide)
    | 31, ht, hv => cases ht; cases hv; exact hr 24 (by decide)
    | 32, ht, hv => cases ht; cases hv; exact hr 25 (by decide)
    | 33, ht, hv => cases ht; cases hv; exact e3 33 _ _ rfl rfl
    | 34, ht, hv => cases ht; cases hv; exact hr 26 (by decide)
    | 35, ht, hv => cases ht; cases hv; exact hr 27 (by decide)
    | 36, ht, hv => cases ht; cases hv; exact e3 36 _ _ rfl rfl
    | 37, ht, hv => cases ht; cases hv; exact e3 37 _ _ rfl rfl
    | 38, ht, hv => cases ht; cases hv; exact e3 38 _ _ rfl rfl
    | 39, ht, hv => cases ht; cases hv; exact e3 39 _ _ rfl rfl
    | f + 40, ht, _ => cases ht
  | 3, _, hd =>
    obtain rfl := Option.some.inj hd
    exact row 0 (by decide) _ _ rfl (ta_g (by omega) (by omega))
  | 4, _, hd =>
    obtain rfl := Option.some.inj hd
    exact row 1 (by decide) _ _ rfl (ta_g (by omega) (by omega))
  | 5, _, hd =>
    obtain rfl := Option.some.inj hd
    exact row 2 (by decide) _ _ rfl (ta_g (by omega) (by omega))
  | 6, _, hd =>
    obtain rfl := Option.some.inj hd
    exact row 3 (by decide) _ _ rfl (ta_g (by omega) (by omega))
  | 7, _, hd =>
    obtain rfl := Option.some.inj hd
    exact row 4 (by decide) _ _ rfl (ta_g (by omega) (by omega))
  | 8, _, hd =>
    obtain rfl := Option.some.inj hd
    exact row 5 (by decide) _ _ rfl (ta_g (by omega) (by omega))
  | 9, _, hd =>
    obtain rfl := Option.some.inj hd
    exact row 6 (by decide) _ _ rfl (ta_g (by omega) (by omega))
  | 10, _, hd =>
    obtain rfl := Option.some.inj hd
    exact row 7 (by decide) _ _ rfl (ta_g (by omega) (by omega))
  | 11, _, hd =>
    obtain rfl := Option.some.inj hd
    exact row 8 (by decide) _ _ rfl (ta_g (by omega) (by omega))
  | 12, _, hd =>
    obtain rfl := Option.some.inj hd
    exact row 9 (by decide) _ _ rfl (ta_g (by omega) (by omega))
  | 13, _, hd =>
    obtain rfl := Option.some.inj hd
    exact row 10 (by decide) _ _ rfl (ta_g (by omega) (by omega))
  | 14, _, hd =>
    obtain rfl := Option.some.inj hd
    exact row 11 (by decide) _ _ rfl (ta_g (by omega) (by omega))
  | 15, _, hd =>
    obtain rfl := Option.some.inj hd
    exact row 12 (by decide) _ _ rfl (ta_g (by omega) (by omega))
  | 16, _, hd =>
    obtain rfl := Option.some.inj hd
    exact row 13 (by decide) _ _ rfl (ta_g (by omega) (by omega))
  | 17, _, hd =>
    obtain rfl := Option.some.inj hd
    exact row 14 (by decide) _ _ rfl (ta_g (by omega) (by omega))
  | 18, _, hd =>
    obtain rfl := Option.some.inj hd
    exact row 15 (by decide) _ _ rfl (ta_g (by omega) (by omega))
  | 19, _, hd =>
    obtain rfl := Option.some.inj hd
    exact row 16 (by decide) _ _ rfl (ta_g (by omega) (by omega))
  | 20, _, hd =>
    obtain rfl := Option.some.inj hd
    exact row 17 (by decide) _ _ rfl (ta_g (by omega) (by omega))
  | 21, _, hd =>
    obtain rfl := Option.some.inj hd
    exact row 18 (by decide) _ _ rfl (ta_g (by omega) (by omega))
  | 22, _, hd =>
    obtain rfl := Option.some.inj hd
    exact row 19 (by decide) _ _ rfl (ta_g (by omega) (by omega))
  | 23, _, hd =>
    obtain rfl := Option.some.inj hd
    exact row 20 (by decide) _ _ rfl (ta_g (by omega) (by omega))
  | 24, _, hd =>
    obtain rfl := Option.some.inj hd
    exact row 21 (by decide) _ _ rfl (ta_g (by omega) (by omega))
  | 25, _, hd =>
    obtain rfl := Option.some.inj hd
    exact row 22 (by decide) _ _ rfl (ta_g (by omega) (by omega))
  | 26, _, hd =>
    obtain rfl := Option.some.inj hd
    exact row 23 (by decide) _ _ rfl (ta_g (by omega) (by omega))
  | 27, _, hd =>
    obtain rfl := Option.some.inj hd
    exact row 24 (by decide) _ _ rfl (ta_g (by omega) (by omega))
  | 28, _, hd =>
    obtain rfl := Option.some.inj hd
    refine ⟨rfl, rfl, fun f t v ht hv => ?_⟩
    match f, ht, hv with
    | 0, ht, hv => cases ht; cases hv; exact (show aIn _ _ from ⟨by decide, by decide⟩)
    | 1, ht, hv => cases ht; cases hv; exact hr 29 (by decide)
    | 2, ht, hv => cases ht; cases hv; exact hr 30 (by decide)
    | 3, ht, hv => cases ht; cases hv; exact (show aIn _ _ from ⟨by decide, by decide⟩)
    | 4, ht, hv => cases ht; cases hv; exact (show aIn _ _ from ⟨by decide, by decide⟩)
    | 5, ht, hv => cases ht; cases hv; exact (show aIn _ _ from ⟨by decide, by decide⟩)
    | 6, ht, hv => cases ht; cases hv; exact (show aIn _ _ from ⟨by decide, by decide⟩)
    | 7, ht, hv => cases ht; cases hv; exact (show aIn _ _ from ⟨by decide, by decide⟩)
    | 8, ht, hv => cases ht; cases hv; exact (show aIn _ _ from ⟨by decide, by decide⟩)
    | 9, ht, hv => cases ht; cases hv; exact hr 31 (by decide)
    | 10, ht, hv => cases ht; cases hv; exact hr 32 (by decide)
    | 11, ht, hv => cases ht; cases hv; exact hr 33 (by decide)
    | 12, ht, hv => cases ht; cases hv; exact hr 34 (by decide)
    | 13, ht, hv => cases ht; cases hv; exact hr 35 (by decide)
    | 14, ht, hv => cases ht; cases hv; exact hr 36 (by decide)
    | 15, ht, hv => cases ht; cases hv; exact hr 37 (by decide)
    | 16, ht, hv => cases ht; cases hv; exact hr 38 (by decide)
    | 17, ht, hv => cases ht; cases hv; exact hr 39 (by decide)
    | 18, ht, hv => cases ht; cases hv; exact hr 40 (by decide)
    | 19, ht, hv => cases ht; cases hv; exact hr 41 (by decide)
    | 20, ht, hv => cases ht; cases hv; exact hr 42 (by decide)
    | 21, ht, hv => cases ht; cases hv; exact hr 43 (by decide)
    | 22, ht, hv => cases ht; cases hv; exact hr 44 (by decide)
    | 23, ht, hv => cases ht; cases hv; exact (show aIn _ _ from ⟨by decide, by decide⟩)
    | 24, ht, hv => cases ht; cases hv; exact (show aIn _ _ from ⟨by decide, by decide⟩)
    | 25, ht, hv => cases ht; cases hv; exact (show aIn _ _ from ⟨by decide, by decide⟩)
    | 26, ht, hv => cases ht; cases hv; exact (show aIn _ _ from ⟨by decide, by decide⟩)
    | 27, ht, hv => cases ht; cases hv; exact (show aIn _ _ from ⟨by decide, by decide⟩)
    | 28, ht, hv => cases ht; cases hv; exact hr 45 (by decide)
    | 29, ht, hv => cases ht; cases hv; exact (show aIn _ _ from ⟨by decide, by decide⟩)
    | 30, ht, hv => cases ht; cases hv; exact hr 46 (by decide)
    | 31, ht, hv => cases ht; cases hv; exact (show aIn _ _ from ⟨by decide, by decide⟩)
    | 32, ht, hv => cases ht; cases hv; exact (show aIn _ _ from ⟨by decide, by decide⟩)
    | 33, ht, hv => cases ht; cases hv; exact hr 47 (by decide)
    | 34, ht, hv => cases ht; cases hv; exact hr 48 (by decide)
    | 35, ht, hv => cases ht; cases hv; exact rfl
    | 36, ht, hv => cases ht; cases hv; exact (show aIn _ _ from ⟨by decide, by decide⟩)
    | f + 37, ht, _ => cases ht
  | 29, _, hd =>
    obtain rfl := Option.some.inj hd
    exact aCe_zr (by decide) (by decide) (by decide) rfl
  | 30, _, hd =>
    obtain rfl := Option.some.inj hd
    exact aCe_zr (by decide) (by decide) (by decide) rfl
  | 31, _, hd =>
    obtain rfl := Option.some.inj hd
    exact aCe_zr (by decide) (by decide) (by decide) rfl
  | 32, _, hd =>
    obtain rfl := Option.some.inj hd
    exact aCe_zr (by decide) (by decide) (by decide) rfl
  | 33, _, hd =>
    obtain rfl := Option.some.inj hd
    exact aCe_zr (by decide) (by decide) (by decide) rfl
  | 34, _, hd =>
    obtain rfl := Option.some.inj hd
    exact aCe_zr (by decide) (by decide) (by decide) rfl
  | 35, _, hd =>
    obtain rfl := Option.some.inj hd
    exact aCe_zr (by decide) (by decide) (by decide) rfl
  | 36, _, hd =>
    obtain rfl := Option.some.inj hd
    exact aCe_zr (by decide) (by decide) (by decide) rfl
  | 37, _, hd =>
    obtain rfl := Option.some.inj hd
    exact aCe_zr (by decide) (by decide) (by decide) rfl
  | 38, _, hd =>
    obtain rfl := Option.some.inj hd
    exact aCe_zr (by decide) (by decide) (by decide) rfl
  | 39, _, hd =>
    obtain rfl := Option.some.inj hd
    exact aCe_zr (by decide) (by decide) (by decide) rfl
  | 40, _, hd =>
    obtain rfl := Option.some.inj hd
    exact aCe_zr (by decide) (by decide) (by decide) rfl
  | 41, _, hd =>
    obtain rfl := Option.some.inj hd
    exact aCe_zr (by decide) (by decide) (by decide) rfl
  | 42, _, hd =>
    obtain rfl := Option.some.inj hd
    exact aCe_zr (by decide) (by decide) (by decide) rfl
  | 43, _, hd =>
    obtain rfl := Option.some.inj hd
    exact aCe_zr (by decide) (by decide) (by decide) rfl
  | 44, _, hd =>
    obtain rfl := Option.some.inj hd
    exact aCe_zr (by decide) (by decide) (by decide) rfl
  | 45, _, hd =>
    obtain rfl := Option.some.inj hd
    exact aCe_zr (by decide) (by decide) (by decide) rfl
  | 46, _, hd =>
    obtain rfl := Option.some.inj hd
    exact aCe_zr (by decide) (by decide) (by decide) rfl
  | 47, _, hd =>
    obtain rfl := Option.some.inj hd
    exact aCe_zr (by decide) (by decide) (by decide) rfl
  | 48, _, hd =>
    obtain rfl := Option.some.inj hd
    exact aCe_zr (by decide) (by decide) (by decide) rfl
  | 49, _, hd =>
    obtain rfl := Option.some.inj hd
    exact aCe_zr (by decide) (by decide) (by decide) rfl
  | 50, _, hd =>
    obtain rfl := Option.some.inj hd
    exact aCe_zr (by decide) (by decide) (by decide) rfl
  | 51, _, hd =>
    obtain rfl := Option.some.inj hd
    exact aCe_zr (by decide) (by decide) (by decide) rfl
  | 52, _, hd =>
    obtain rfl := Option.some.inj hd
    exact aCe_zr (by decide) (by decide) (by decide) rfl
  | j + 53, hj, _ => omega
theorem rN_Ha (h : rNew K n N a σ F A) : aCe K N (.inr (11, [.inl (0, 1), .inl (0, 65536), .inr (some (.inl (false, 56))), .inl (0, 65536), .inr (some (.inl (false, 57))), .inr (some (.inl (false, 62))), .inr (some (.inl (false, 88))), .inr (some (.inl (true, 109))), .inl (0, 65537), .inl (0, 65537), .inl (0, 65538), .inl (0, 65536), .inl (-2147483648, 2147483647), .inl (0, 32768), .inr (some (.inl (false, 58))), .inr (some (.inl (false, 59))), .inl (0, 1), .inr (some (.inl (false, 60))), .inr (some (.inl (false, 61)))])) (σ a) := by
  obtain ⟨h1, h2, h3, h4, h6, h7⟩ := h
  rw [h6]
  have hr : ∀ i, i < 53 → ∀ {b : Bool}, aG K N (.inr (some (.inl (b, rkl.getD i 0)))) (.inr (.inr (some (.inl (n + i))))) := fun i hi b => ⟨by omega, Or.inl (h4 i hi)⟩
  refine ⟨rfl, rfl, fun f t v ht hv => ?_⟩
  match f, ht, hv with
  | 0, ht, hv => cases ht; cases hv; exact (show aIn _ _ from ⟨by decide, by decide⟩)
  | 1, ht, hv => cases ht; cases hv; exact (show aIn _ _ from ⟨by decide, by decide⟩)
  | 2, ht, hv => cases ht; cases hv; exact hr 0 (by decide)
  | 3, ht, hv => cases ht; cases hv; exact (show aIn _ _ from ⟨by decide, by decide⟩)
  | 4, ht, hv => cases ht; cases hv; exact hr 1 (by decide)
  | 5, ht, hv => cases ht; cases hv; exact hr 2 (by decide)
  | 6, ht, hv => cases ht; cases hv; exact hr 28 (by decide)
  | 7, ht, hv => cases ht; cases hv; exact rfl
  | 8, ht, hv => cases ht; cases hv; exact (show aIn _ _ from ⟨by decide, by decide⟩)
  | 9, ht, hv => cases ht; cases hv; exact (show aIn _ _ from ⟨by decide, by decide⟩)
  | 10, ht, hv => cases ht; cases hv; exact (show aIn _ _ from ⟨by decide, by decide⟩)
  | 11, ht, hv => cases ht; cases hv; exact (show aIn _ _ from ⟨by decide, by decide⟩)
  | 12, ht, hv => cases ht; cases hv; exact (show aIn _ _ from ⟨by decide, by decide⟩)
  | 13, ht, hv => cases ht; cases hv; exact (show aIn _ _ from ⟨by decide, by decide⟩)
  | 14, ht, hv => cases ht; cases hv; exact hr 49 (by decide)
  | 15, ht, hv => cases ht; cases hv; exact hr 50 (by decide)
  | 16, ht, hv => cases ht; cases hv; exact (show aIn _ _ from ⟨by decide, by decide⟩)
  | 17, ht, hv => cases ht; cases hv; exact hr 51 (by decide)
  | 18, ht, hv => cases ht; cases hv; exact hr 52 (by decide)
  | f + 19, ht, _ => cases ht
theorem rkl_1 : ∀ i, i < 53 → 56 ≤ rkl.getD i 0 ∧ rkl.getD i 0 ≤ 108 := by decide +kernel
theorem rkl_t : ∀ j, j < 25 → rkl.getD (3 + j) 0 = 63 + j := by decide +kernel
theorem rN_pl (h : rNew K n N a σ F A) {p : Nat} (hp : p = a ∨ ∃ j, j < 53 ∧ p = n + j) : zPl (σ p) := by
  rcases hp with rfl | ⟨j, hj, rfl⟩
  · rw [h.2.2.2.2.1]
    trivial
  · rw [h.2.2.2.2.2 j hj]
    exact zPl_all (cs := rcl n F A) rfl _ (by
      rw [List.getD, List.getElem?_eq_getElem (show j < (rcl n F A).length by show j < 53; omega)]
      exact List.getElem_mem _)
theorem rN_I (h : rNew K n N a σ F A) (hT : zFA (n + 2) (n + 3) F A) (hu : ∀ p, p < N → K p = 109 → False) : rJ K N σ a := by
  obtain ⟨h1, h2, h3, h4, h6, h7⟩ := h
  refine ⟨by omega, h3, ⟨n + 2, _, h6, rfl, by omega, h4 2 (by decide), ?_⟩, ro3_399.mpr (Or.inl ⟨⟨by omega, h3, 11, _, h6, rfl⟩, fun q hq hk => hu q hq hk⟩)⟩
  refine rGT_gy (ok := fun k => 62 ≤ k ∧ k ≤ 87) (K := zKT (n + 2) (n + 3)) (n := n + 3 + 25) (σ := txA σ (n + 2) (n + 3) F A) (p := zP0) (fun p hp hk => ?_) (fun k a b => ⟨a, b⟩) (hT σ).2
  have hk2 : 62 ≤ zKT (n + 2) (n + 3) p ∧ zKT (n + 2) (n + 3) p ≤ 87 := hk
  by_cases e : p = n + 2
  · subst e
    refine ⟨by omega, by rw [zKT_a]; exact h4 2 (by decide), ?_⟩
    rw [ta_a]
    exact h7 2 (by decide)
  · by_cases e2 : p < n + 3
    · rw [zKT_d e2 e] at hk2
      omega
    · obtain ⟨j, rfl⟩ := Nat.exists_eq_add_of_le (Nat.le_of_not_lt e2)
      refine ⟨by omega, ?_, ?_⟩
      · rw [zKT_r (by omega), show n + 3 + j = n + (3 + j) by omega, h4 (3 + j) (by omega)]
        exact rkl_t j (by omega)
      · rw [ta_g (by omega) (by omega), show n + 3 + j = n + (3 + j) by omega, h7 (3 + j) (by omega)]
        match j, hp with
        | 0, _ => rfl
        | 1, _ => rfl
        | 2, _ => rfl
        | 3, _ => rfl
        | 4, _ => rfl
        | 5, _ => rfl
        | 6, _ => rfl
        | 7, _ => rfl
        | 8, _ => rfl
        | 9, _ => rfl
        | 10, _ => rfl
        | 11, _ => rfl
        | 12, _ => rfl
        | 13, _ => rfl
        | 14, _ => rfl
        | 15, _ => rfl
        | 16, _ => rfl
        | 17, _ => rfl
        | 18, _ => rfl
        | 19, _ => rfl
        | 20, _ => rfl
        | 21, _ => rfl
        | 22, _ => rfl
        | 23, _ => rfl
        | 24, _ => rfl
        | j + 25, hp => omega
end RST
