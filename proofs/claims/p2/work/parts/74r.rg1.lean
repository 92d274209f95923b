/-! facts out of a table of their own: what every such F has (the reference's logic) -/
def rSh {P : Type} (s : P → jv → P) (p : P) : List jv → P
  | [] => p
  | v :: r => s (rSh s p r) v
theorem rSh_app {P : Type} (s : P → jv → P) (p : P) : ∀ (a b : List jv), rSh s p (a ++ b) = rSh s (rSh s p b) a
  | [], _ => rfl
  | v :: a, b => by
    show s (rSh s p (a ++ b)) v = s (rSh s (rSh s p b) a) v
    rw [rSh_app s p a b]
def rF0 {P : Type} (B : P → Nat → List jv → (Nat → jcell) → Prop) (s : P → jv → P) : aFt P := fun p r vs σ => B (rSh s p (vs.drop (r % 16))) (r / 16) (vs.take (r % 16)) σ
def rFF {P : Type} (B : P → Nat → List jv → (Nat → jcell) → Prop) (s : P → jv → P) : aFt P := fun p r vs σ => if r < 65536 then rF0 B s p r vs σ else if r < 131072 then (if 3 ≤ r % 16 then (match vs with
  | .inr (.inr (some (.inl a))) :: .inl x :: .inl y :: l => rF0 B s p (r - 65539) l (jup σ a (jsto (σ a) x.toNatClampNeg y))
  | .inr (.inr (some (.inl a))) :: .inl x :: .inr (.inl y) :: l => rF0 B s p (r - 65539) l (jup σ a (jstl (σ a) x.toNatClampNeg y))
  | _ => False) else False) else (if 2 ≤ r % 16 then (match vs with
  | .inr (.inr (some (.inl a))) :: y :: l => rF0 B s p (r % 131072 - 2) l (jup σ a (jstf (σ a) (r / 131072 - 1) y))
  | _ => False) else False)
theorem rF0_sh {P : Type} (B : P → Nat → List jv → (Nat → jcell) → Prop) (s : P → jv → P) (p : P) (r : Nat) (vs ms : List jv) (σ : Nat → jcell) (h : r % 16 ≤ vs.length) : rF0 B s p r (vs ++ ms) σ ↔ rF0 B s (rSh s p ms) r vs σ := by
  unfold rF0
  rw [List.drop_append_of_le_length h, List.take_append_of_le_length h, rSh_app]
theorem rF_fre {P : Type} {B : P → Nat → List jv → (Nat → jcell) → Prop} {s : P → jv → P} (hf : ∀ (p p' : P) (k : Nat) (vs : List jv) (σ : Nat → jcell), 100 ≤ k → k < 400 → B p k vs σ → B p' k vs σ) (hh : ∀ (p : P) (k : Nat) (vs : List jv) (σ : Nat → jcell), 1000 ≤ k → B p k vs σ → False) (p p' : P) (r : Nat) (vs : List jv) (σ : Nat → jcell) (hr : aFre r = true) (h : rFF B s p r vs σ) : rFF B s p' r vs σ := by
  have hr : 1600 ≤ r % 65536 ∧ r % 65536 ≤ 6399 := by
    unfold aFre at hr
    rw [Bool.and_eq_true] at hr
    exact ⟨Nat.le_of_ble_eq_true hr.1, Nat.le_of_ble_eq_true hr.2⟩
  unfold rFF at h ⊢
  by_cases c : r < 65536
  · rw [if_pos c] at h ⊢
    exact hf _ _ _ _ _ (by omega) (by omega) h
  · rw [if_neg c] at h ⊢
    by_cases c2 : r < 131072
    · rw [if_pos c2] at h ⊢
      by_cases c3 : 3 ≤ r % 16
      · rw [if_pos c3] at h ⊢
        split at h
        next => exact hf _ _ _ _ _ (by omega) (by omega) h
        next => exact hf _ _ _ _ _ (by omega) (by omega) h
        next => exact h.elim
      · rw [if_neg c3] at h
        exact h.elim
    · rw [if_neg c2] at h ⊢
      by_cases c3 : 2 ≤ r % 16
      · rw [if_pos c3] at h ⊢
        split at h
        next =>
          by_cases c4 : r % 131072 < 65536
          · exact hf _ _ _ _ _ (by omega) (by omega) h
          · exact (hh _ _ _ _ (show 1000 ≤ (r % 131072 - 2) / 16 by omega) h).elim
        next => exact h.elim
      · rw [if_neg c3] at h
        exact h.elim
theorem rF_sh {P : Type} {B : P → Nat → List jv → (Nat → jcell) → Prop} {s : P → jv → P} (hf : ∀ (p p' : P) (k : Nat) (vs : List jv) (σ : Nat → jcell), 100 ≤ k → k < 400 → B p k vs σ → B p' k vs σ) (hh : ∀ (p : P) (k : Nat) (vs : List jv) (σ : Nat → jcell), 1000 ≤ k → B p k vs σ → False) : aShf (rFF B s) (rSh s) := by
  refine ⟨fun p r vs ms σ h0 h => ?_, rF_fre hf hh⟩
  unfold rFF
  split
  · exact rF0_sh B s p r vs ms σ h
  · split
    · split
      next h3 =>
        match vs, h with
        | [], h => simp at h; omega
        | [_], h => simp at h; omega
        | [_, _], h => simp at h; omega
        | v0 :: v1 :: v2 :: l, h =>
          rcases v0 with x | x | _ | a | j
          · exact Iff.rfl
          · exact Iff.rfl
          · exact Iff.rfl
          · rcases v1 with x | x
            · rcases v2 with y | y | y
              · exact rF0_sh B s p (r - 65539) l ms _ (by simp at h; omega)
              · exact rF0_sh B s p (r - 65539) l ms _ (by simp at h; omega)
              · exact Iff.rfl
            · exact Iff.rfl
          · exact Iff.rfl
      next => exact Iff.rfl
    · split
      next h3 =>
        match vs, h with
        | [], h => simp at h; omega
        | [_], h => simp at h; omega
        | v0 :: v1 :: l, h =>
          rcases v0 with x | x | _ | a | j
          · exact Iff.rfl
          · exact Iff.rfl
          · exact Iff.rfl
          · exact rF0_sh B s p (r % 131072 - 2) l ms _ (by simp at h; omega)
          · exact Iff.rfl
      next => exact Iff.rfl
section RGN
variable {P : Type} {B : P → Nat → List jv → (Nat → jcell) → Prop} {s : P → jv → P}
theorem rF_pd1 (p : P) (r' r a : Nat) (x y : Int32) (vs : List jv) (σ : Nat → jcell) (e : r' = r + 65539) (hr : r < 65533) (h : rFF B s p r' (.inr (.inr (some (.inl a))) :: .inl x :: .inl y :: vs) σ) : rFF B s p r vs (jup σ a (jsto (σ a) x.toNatClampNeg y)) := by
  unfold rFF at h ⊢
  rw [if_neg (by omega), if_pos (by omega)] at h
  rw [if_pos (by omega)]
  split at h
  next =>
    dsimp only at h
    rw [show r' - 65539 = r by omega] at h
    exact h
  next => exact h.elim
theorem rF_pd2 (p : P) (r' r a f : Nat) (y : jv) (vs : List jv) (σ : Nat → jcell) (e : r' = r + 131072 * (f + 1) + 2) (hr : r < 65534) (h : rFF B s p r' (.inr (.inr (some (.inl a))) :: y :: vs) σ) : rFF B s p r vs (jup σ a (jstf (σ a) f y)) := by
  unfold rFF at h ⊢
  rw [if_neg (by omega), if_neg (by omega)] at h
  rw [if_pos (by omega)]
  split at h
  next =>
    dsimp only at h
    rw [show r' % 131072 - 2 = r by omega, show r' / 131072 - 1 = f by omega] at h
    exact h
  next => exact h.elim
theorem rF_pd3 (p : P) (r' r a : Nat) (x : Int32) (y : Int64) (vs : List jv) (σ : Nat → jcell) (e : r' = r + 65539) (hr : r < 65533) (h : rFF B s p r' (.inr (.inr (some (.inl a))) :: .inl x :: .inr (.inl y) :: vs) σ) : rFF B s p r vs (jup σ a (jstl (σ a) x.toNatClampNeg y)) := by
  unfold rFF at h ⊢
  rw [if_neg (by omega), if_pos (by omega)] at h
  rw [if_pos (by omega)]
  split at h
  next =>
    dsimp only at h
    rw [show r' - 65539 = r by omega] at h
    exact h
  next => exact h.elim
theorem rF_pd : aPd (rFF B s) := ⟨fun p r a x y vs σ _ hr => rF_pd1 p _ r a x y vs σ rfl hr, fun p r a f y vs σ _ hr => rF_pd2 p _ r a f y vs σ rfl hr, fun p r a x y vs σ _ hr => rF_pd3 p _ r a x y vs σ rfl hr⟩
theorem rF_b {p : P} {r : Nat} {vs : List jv} {σ : Nat → jcell} (h : r < 65536) (hl : vs.length = r % 16) : rFF B s p r vs σ ↔ B p (r / 16) vs σ := by
  unfold rFF rF0
  rw [if_pos h, ← hl, List.drop_length, List.take_length]
  exact Iff.rfl
theorem rF_g {p : P} {r : Nat} {vs : List jv} {σ : Nat → jcell} (h : r < 65536) : rFF B s p r vs σ ↔ B (rSh s p (vs.drop (r % 16))) (r / 16) (vs.take (r % 16)) σ := by
  unfold rFF rF0
  rw [if_pos h]
theorem rF_p {p : P} {r a : Nat} {x y : Int32} {vs : List jv} {σ : Nat → jcell} (h : r < 65533) (h2 : r % 16 ≤ 12) (hb : B (rSh s p (vs.drop (r % 16))) (r / 16) (vs.take (r % 16)) (jup σ a (jsto (σ a) x.toNatClampNeg y))) : rFF B s p (r + 65539) (.inr (.inr (some (.inl a))) :: .inl x :: .inl y :: vs) σ := by
  unfold rFF
  rw [if_neg (by omega), if_pos (by omega), if_pos (by omega)]
  dsimp only
  rw [show r + 65539 - 65539 = r by omega]
  exact hb
theorem rF_pl {p : P} {r a : Nat} {x : Int32} {y : Int64} {vs : List jv} {σ : Nat → jcell} (h : r < 65533) (h2 : r % 16 ≤ 12) (hb : B (rSh s p (vs.drop (r % 16))) (r / 16) (vs.take (r % 16)) (jup σ a (jstl (σ a) x.toNatClampNeg y))) : rFF B s p (r + 65539) (.inr (.inr (some (.inl a))) :: .inl x :: .inr (.inl y) :: vs) σ := by
  unfold rFF
  rw [if_neg (by omega), if_pos (by omega), if_pos (by omega)]
  dsimp only
  rw [show r + 65539 - 65539 = r by omega]
  exact hb
theorem rF_pf {p : P} {r a f : Nat} {y : jv} {vs : List jv} {σ : Nat → jcell} (h : r < 65534) (h2 : r % 16 ≤ 13) (hb : B (rSh s p (vs.drop (r % 16))) (r / 16) (vs.take (r % 16)) (jup σ a (jstf (σ a) f y))) : rFF B s p (r + 131072 * (f + 1) + 2) (.inr (.inr (some (.inl a))) :: y :: vs) σ := by
  unfold rFF
  rw [if_neg (by omega), if_neg (by omega), if_pos (by omega)]
  dsimp only
  rw [show (r + 131072 * (f + 1) + 2) % 131072 - 2 = r by omega, show (r + 131072 * (f + 1) + 2) / 131072 - 1 = f by omega]
  exact hb
end RGN
theorem rSm_jup {n : Nat} {K : Nat → Nat} {σ σ' : Nat → jcell} {vs ws : List jv} {a : Nat} {T : jcell → jcell} (hT : ∀ (q : aDe) (c c' : jcell), aSm vs (q.1, q.2.1, none) c c' → aSm ws q (T c) (T c')) {d : List aDe} (h : ∀ b, b < n → ∀ q ∈ d.map (fun e => ((e.1, e.2.1, none) : aDe)), q.1 = K b → aSm vs q (σ b) (σ' b)) : ∀ b, b < n → ∀ q ∈ d, q.1 = K b → aSm ws q (jup σ a (T (σ a)) b) (jup σ' a (T (σ' a)) b) := by
  intro b hb q hq hk
  have h1 := h b hb (q.1, q.2.1, none) (List.mem_map.mpr ⟨q, hq, rfl⟩) hk
  by_cases e : b = a
  · subst e
    rw [jup_s, jup_s]
    exact hT q _ _ h1
  · rw [jup_n e, jup_n e]
    rcases h1 with h1 | ⟨k, f1, f2, e1, e2, e3, e4⟩ | ⟨ty, m, g1, g2, f, z, e1, -⟩
    · exact Or.inl h1
    · exact Or.inr (Or.inl ⟨k, f1, f2, e1, e2, e3, e4⟩)
    · cases e1
theorem rSm_sto {vs ws : List jv} (i : Nat) (x : Int32) (q : aDe) (c c' : jcell) (h : aSm vs (q.1, q.2.1, none) c c') : aSm ws q (jsto c i x) (jsto c' i x) := by
  rcases h with h1 | ⟨k, f1, f2, e1, e2, e3, e4⟩ | ⟨ty, m, g1, g2, f, z, e1, -⟩
  · exact Or.inl (by rw [h1])
  · subst e1; subst e2
    exact Or.inr (Or.inl ⟨k, f1, f2, rfl, rfl, e3, e4⟩)
  · cases e1
theorem rSm_stl {vs ws : List jv} (i : Nat) (x : Int64) (q : aDe) (c c' : jcell) (h : aSm vs (q.1, q.2.1, none) c c') : aSm ws q (jstl c i x) (jstl c' i x) := by
  rcases h with h1 | ⟨k, f1, f2, e1, e2, e3, e4⟩ | ⟨ty, m, g1, g2, f, z, e1, -⟩
  · exact Or.inl (by rw [h1])
  · subst e1; subst e2
    exact Or.inr (Or.inl ⟨k, f1, f2, rfl, rfl, e3, e4⟩)
  · cases e1
theorem rSm_stf {vs ws : List jv} (i : Nat) (x : jv) (q : aDe) (c c' : jcell) (h : aSm vs (q.1, q.2.1, none) c c') : aSm ws q (jstf c i x) (jstf c' i x) := by
  rcases h with h1 | ⟨k, f1, f2, e1, e2, e3, e4⟩ | ⟨ty, m, g1, g2, f, z, e1, -⟩
  · exact Or.inl (by rw [h1])
  · subst e1; subst e2
    refine Or.inr (Or.inl ⟨k, f1.set i x, f2.set i x, rfl, rfl, by rw [List.length_set, List.length_set]; exact e3, fun f hf => ?_⟩)
    by_cases e : i = f
    · subst e
      rw [List.getElem?_set, List.getElem?_set, if_pos rfl, if_pos rfl, e3]
    · rw [List.getElem?_set_ne e, List.getElem?_set_ne e]
      exact e4 f hf
  · cases e1
theorem rF_dp {P : Type} {B : P → Nat → List jv → (Nat → jcell) → Prop} {s : P → jv → P} {K : Nat → Nat} {n : Nat} {dep : List (List aDe)} (hL : dep.length ≤ 4000) (hh : ∀ (p : P) (k : Nat) (vs : List jv) (σ : Nat → jcell), 1000 ≤ k → B p k vs σ → False) (hs : ∀ (p : P) (k j : Nat) (vs : List jv) (σ σ' : Nat → jcell), k < dep.length → (∀ a, a < n → ∀ q ∈ dep.getD k [], q.1 = K a → aSm vs q (σ a) (σ' a)) → B p k (vs.take j) σ → B p k (vs.take j) σ') (ho : aOc (rFF B s) dep) : aDp (rFF B s) K n dep := by
  refine ⟨fun p r vs σ σ' hl h hf => ?_, rF_pd, ho⟩
  have hl : r / 16 % 4096 < dep.length := of_decide_eq_true hl
  unfold rFF at hf ⊢
  unfold aDg at h
  by_cases c : r < 65536
  · rw [if_pos c] at hf h ⊢
    exact hs _ _ _ vs σ σ' (by omega) h hf
  · rw [if_neg c] at hf h ⊢
    by_cases c2 : r < 131072
    · rw [if_pos c2] at hf ⊢
      by_cases c3 : 3 ≤ r % 16
      · rw [if_pos c3] at hf ⊢
        split at hf
        next a x y l =>
          refine hs _ _ _ l (jup σ a (jsto (σ a) x.toNatClampNeg y)) _ (by omega) ?_ hf
          rw [show (r - 65539) / 16 = r / 16 % 4096 by omega]
          exact rSm_jup (rSm_sto _ _) h
        next a x y l =>
          refine hs _ _ _ l (jup σ a (jstl (σ a) x.toNatClampNeg y)) _ (by omega) ?_ hf
          rw [show (r - 65539) / 16 = r / 16 % 4096 by omega]
          exact rSm_jup (rSm_stl _ _) h
        next => exact hf.elim
      · rw [if_neg c3] at hf
        exact hf.elim
    · rw [if_neg c2] at hf ⊢
      by_cases c3 : 2 ≤ r % 16
      · rw [if_pos c3] at hf ⊢
        split at hf
        next a y l =>
          by_cases c4 : (r % 131072 - 2) / 16 < dep.length
          · refine hs _ _ _ l (jup σ a (jstf (σ a) (r / 131072 - 1) y)) _ c4 ?_ hf
            rw [show (r % 131072 - 2) / 16 = r / 16 % 4096 by omega]
            exact rSm_jup (rSm_stf _ _) h
          · exact (hh _ _ _ _ (show 1000 ≤ (r % 131072 - 2) / 16 by omega) hf).elim
        next => exact hf.elim
      · rw [if_neg c3] at hf
        exact hf.elim
