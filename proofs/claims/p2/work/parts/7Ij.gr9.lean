section
/-! the constructors of the reference -/
theorem rz_rqG1 {K : Nat → Nat} {n : Nat} {JX : (Nat → jcell) → Prop} : aGho (rH 0 K n) fa_T K n JX ag_rqG1 := rw_rqG1
theorem rz_rqG2 {K : Nat → Nat} {n : Nat} {JX : (Nat → jcell) → Prop} : aGho (rH 0 K n) fa_T K n JX ag_rqG2 := rw_rqG2
theorem rz_rqG3 {K : Nat → Nat} {n : Nat} {JX : (Nat → jcell) → Prop} : aGho (rH 0 K n) fa_T K n JX ag_rqG3 := rw_rqG3
noncomputable def zPl (c : jcell) : Prop := match c with
  | .inr _ => True
  | .inl (_, _, .inl _) => True
  | .inl (_, _, .inr (.inl _)) => True
  | _ => False
theorem zPl_eq {K : Nat → Nat} {n : Nat} {md : List (Nat × Nat)} {mk : List (Nat × aF)} {ρ : List jv} {σ σ' : Nat → jcell} (h1 : aFr K n md σ σ') (h2 : aFa K n mk ρ σ σ') {a : Nat} (ha : a < n) (hp : zPl (σ a)) (hm : ∀ q ∈ md, ¬ q.1 = K a) (hk : ∀ q ∈ mk, ¬ q.1 = K a) : σ' a = σ a := by
  cases e : σ a with
  | inr y =>
    obtain ⟨c, fs⟩ := y
    obtain ⟨fs', e1, e2, e3⟩ := h1 a ha c fs e
    rw [e1]
    congr 2
    apply List.ext_getElem?
    intro i
    cases hi : fs[i]? with
    | none => exact List.getElem?_eq_none (by rw [e2]; exact List.getElem?_eq_none_iff.mp hi)
    | some v => exact e3 i v hi (fun h9 => hm _ h9 rfl)
  | inl y =>
    obtain ⟨ty, m, g⟩ := y
    rcases g with g | g | g
    · obtain ⟨g', e1, e2⟩ := (h2 a ha).1 ty m g e
      rw [e1, show g' = g from funext (fun i => e2 i (fun q hq hz => absurd hz (hk q hq)))]
    · obtain ⟨g', e1, e2⟩ := (h2 a ha).2 ty m g e
      rw [e1, show g' = g from funext (fun i => e2 i (fun q hq hz => absurd hz (hk q hq)))]
    · rw [e] at hp
      exact hp.elim
theorem zPl_jmk {σ : Nat → jcell} {a n : Nat} {o : jcell} {cs : List jcell} (h : ∀ p, p < n → zPl (σ p)) (ho : zPl o) (hc : ∀ c ∈ cs, zPl c) : ∀ p, p < n + cs.length → zPl (jmk σ a n o cs p) := by
  intro p hp
  unfold jmk
  split
  · exact ho
  · split
    · exact h p ‹_›
    · have h1 : p - n < cs.length := by omega
      rw [List.getD, List.getElem?_eq_getElem h1]
      exact hc _ (List.getElem_mem h1)
noncomputable def zKT (a n : Nat) : Nat → Nat := fun p => if p = a then 62 else if p < n then 999 else 63 + (p - n)
noncomputable def zP0 : rP := ((fun _ => 0, 0, 0, 0), none)
noncomputable def zT (σ : Nat → jcell) (a n : Nat) : Prop := aH fa_T (zKT a n) (n + 25) σ ∧ rB3 0 (zKT a n) (n + 25) zP0 367 [rR a] σ
noncomputable def zFA (a n : Nat) (F : Nat → Int32) (A : Nat → Nat → Int32) : Prop := ∀ σ, zT (txA σ a n F A) a n
theorem zKT_a {a n : Nat} : zKT a n a = 62 := if_pos rfl
theorem zKT_r {a n j : Nat} (ha : a < n) : zKT a n (n + j) = 63 + j := by
  unfold zKT
  rw [if_neg (by omega), if_neg (by omega)]
  omega
theorem zKT_d {a n p : Nat} (hp : p < n) (hne : p ≠ a) : zKT a n p = 999 := by
  unfold zKT
  rw [if_neg hne, if_pos hp]
theorem zKT_u {a n p j : Nat} (ha : a < n) (hj : j < 25) (h : zKT a n p = 63 + j) : p = n + j := by
  unfold zKT at h
  split at h
  · omega
  · split at h <;> omega
theorem zT_cg {σ σ' : Nat → jcell} {a n : Nat} (ha : a < n) (h : zT σ a n) (he : ∀ p, p < n + 25 → (p = a ∨ n ≤ p) → σ' p = σ p) : zT σ' a n := by
  refine ⟨fun p hp d hd => ?_, rGT_gy (ok := fun k => k < 115) (fun p hp hk => ⟨hp, rfl, he p hp ?_⟩) (fun k _ h2 => Nat.lt_of_le_of_lt h2 (by decide)) h.2⟩
  · by_cases hq : p = a ∨ n ≤ p
    · rw [he p hp hq]
      exact h.1 p hp d hd
    · rw [zKT_d (by omega) (fun e => hq (Or.inl e))] at hd
      cases (show none = some d from hd)
  · have hk2 : zKT a n p < 115 := hk
    by_cases hq : p = a ∨ n ≤ p
    · exact hq
    · rw [zKT_d (by omega) (fun e => hq (Or.inl e))] at hk2
      exact absurd hk2 (by decide)
noncomputable def zi_214 : aCu := (214, ([some 0], [1, 0], [(.inr (some (.inl (false, 62))), none), (.inl (0, 0), none), (.inl (0, 0), none), (.inl (0, 0), none)], ([(0, 5, 2), (0, 6, 3)], [], [], [(0, [])])), [.inr (.inl 0), .inr (.inr (0, 5)), .inr (.inr (0, 6))], [([], 0)])
theorem zT_H {σ : Nat → jcell} {a n : Nat} (ha : a < n) : aH fa_T (zKT a n) (n + 25) (txA σ a n (fun _ => 0) (fun _ _ => 0)) := by
  intro p hp d hd
  have hz : ∀ q : Int × Int, q.1 ≤ 0 → 0 ≤ q.2 → aG (zKT a n) (n + 25) (.inl q) (.inl 0) := fun q h1 h2 => ⟨h1, h2⟩
  have hr : ∀ j, j < 25 → aG (zKT a n) (n + 25) (.inr (some (.inl (false, 63 + j)))) (.inr (.inr (some (.inl (n + j))))) := fun j hj => ⟨by omega, Or.inl (zKT_r ha)⟩
  by_cases e : p = a
  · subst e
    rw [zKT_a] at hd
    obtain rfl := Option.some.inj hd
    rw [ta_a]
    refine ⟨rfl, rfl, fun f t v ht hv => ?_⟩
    match f, ht, hv with
    | 0, ht, hv => cases ht; cases hv; exact hz _ (by decide) (by decide)
    | 1, ht, hv => cases ht; cases hv; exact hz _ (by decide) (by decide)
    | 2, ht, hv => cases ht; cases hv; exact hr 0 (by decide)
    | 3, ht, hv => cases ht; cases hv; exact hz _ (by decide) (by decide)
    | 4, ht, hv => cases ht; cases hv; exact hr 1 (by decide)
    | 5, ht, hv => cases ht; cases hv; exact hz _ (by decide) (by decide)
    | 6, ht, hv => cases ht; cases hv; exact hz _ (by decide) (by decide)
    | 7, ht, hv => cases ht; cases hv; exact hr 2 (by decide)
    | 8, ht, hv => cases ht; cases hv; exact hr 3 (by decide)
    | 9, ht, hv => cases ht; cases hv; exact hr 4 (by decide)
    | 10, ht, hv => cases ht; cases hv; exact hr 5 (by decide)
    | 11, ht, hv => cases ht; cases hv; exact hr 6 (by decide)
    | 12, ht, hv => cases ht; cases hv; exact hr 7 (by decide)
    | 13, ht, hv => cases ht; cases hv; exact hr 8 (by decide)
    | 14, ht, hv => cases ht; cases hv; exact hr 9 (by decide)
    | 15, ht, hv => cases ht; cases hv; exact hr 10 (by decide)
    | 16, ht, hv => cases ht; cases hv; exact hr 11 (by decide)
    | 17, ht, hv => cases ht; cases hv; exact hr 12 (by decide)
    | 18, ht, hv => cases ht; cases hv; exact hr 13 (by decide)
    | 19, ht, hv => cases ht; cases hv; exact hr 14 (by decide)
    | 20, ht, hv => cases ht; cases hv; exact hr 15 (by decide)
    | 21, ht, hv => cases ht; cases hv; exact hr 16 (by decide)
    | 22, ht, hv => cases ht; cases hv; exact hr 17 (by decide)
    | 23, ht, hv => cases ht; cases hv; exact hr 18 (by decide)
    | 24, ht, hv => cases ht; cases hv; exact hr 19 (by decide)
    | 25, ht, hv => cases ht; cases hv; exact hz _ (by decide) (by decide)
    | 26, ht, hv => cases ht; cases hv; exact hz _ (by decide) (by decide)
    | 27, ht, hv => cases ht; cases hv; exact hz _ (by decide) (by decide)
    | 28, ht, hv => cases ht; cases hv; exact hz _ (by decide) (by decide)
    | 29, ht, hv => cases ht; cases hv; exact hz _ (by decide) (by decide)
    | 30, ht, hv => cases ht; cases hv; exact hr 20 (by decide)
    | 31, ht, hv => cases ht; cases hv; exact hr 21 (by decide)
    | 32, ht, hv => cases ht; cases hv; exact hr 22 (by decide)
    | 33, ht, hv => cases ht; cases hv; exact hz _ (by decide) (by decide)
    | 34, ht, hv => cases ht; cases hv; exact hr 23 (by decide)
    | 35, ht, hv => cases ht; cases hv; exact hr 24 (by decide)
    | 36, ht, hv => cases ht; cases hv; exact hz _ (by decide) (by decide)
    | 37, ht, hv => cases ht; cases hv; exact hz _ (by decide) (by decide)
    | 38, ht, hv => cases ht; cases hv; exact hz _ (by decide) (by decide)
    | 39, ht, hv => cases ht; cases hv; exact hz _ (by decide) (by decide)
    | f + 40, ht, _ => cases ht
  · by_cases hn : p < n
    · rw [zKT_d hn e] at hd
      cases (show none = some d from hd)
    · obtain ⟨j, rfl⟩ := Nat.exists_eq_add_of_le (Nat.le_of_not_lt hn)
      rw [zKT_r ha] at hd
      rw [ta_g ha (by omega)]
      match j, hp, hd with
      | 0, _, hd =>
        obtain rfl := Option.some.inj hd
        exact ⟨rfl, rfl, by decide, fun i _ => ⟨(show aIn _ 0 from ⟨by decide, by decide⟩), fun q hq => by cases hq⟩⟩
      | 1, _, hd =>
        obtain rfl := Option.some.inj hd
        exact ⟨rfl, rfl, by decide, fun i _ => ⟨(show aIn _ 0 from ⟨by decide, by decide⟩), fun q hq => by cases hq⟩⟩
      | 2, _, hd =>
        obtain rfl := Option.some.inj hd
        exact ⟨rfl, rfl, by decide, fun i _ => ⟨(show aIn _ 0 from ⟨by decide, by decide⟩), fun q hq => by cases hq⟩⟩
      | 3, _, hd =>
        obtain rfl := Option.some.inj hd
        refine ⟨rfl, rfl, by decide, fun i _ => ⟨(show aIn _ 0 from ⟨by decide, by decide⟩), fun q hq h1 h2 => ?_⟩⟩
        have hz0 : (0 : Int32).toInt = 0 := rfl
        dsimp only
        rw [hz0]
        rcases List.mem_cons.mp hq with rfl | hq
        · dsimp only at h1 h2 ⊢
          omega
        rcases List.mem_cons.mp hq with rfl | hq
        · dsimp only at h1 h2 ⊢
          omega
        rcases List.mem_cons.mp hq with rfl | hq
        · dsimp only at h1 h2 ⊢
          omega
        rcases List.mem_cons.mp hq with rfl | hq
        · dsimp only at h1 h2 ⊢
          omega
        cases hq
      | 4, _, hd =>
        obtain rfl := Option.some.inj hd
        refine ⟨rfl, rfl, by decide, fun i _ => ⟨(show aIn _ 0 from ⟨by decide, by decide⟩), fun q hq h1 h2 => ?_⟩⟩
        have hz0 : (0 : Int32).toInt = 0 := rfl
        dsimp only
        rw [hz0]
        rcases List.mem_cons.mp hq with rfl | hq
        · dsimp only at h1 h2 ⊢
          omega
        rcases List.mem_cons.mp hq with rfl | hq
        · dsimp only at h1 h2 ⊢
          omega
        cases hq
      | 5, _, hd =>
        obtain rfl := Option.some.inj hd
        exact ⟨rfl, rfl, by decide, fun i _ => ⟨(show aIn _ 0 from ⟨by decide, by decide⟩), fun q hq => by cases hq⟩⟩
      | 6, _, hd =>
        obtain rfl := Option.some.inj hd
        exact ⟨rfl, rfl, by decide, fun i _ => ⟨(show aIn _ 0 from ⟨by decide, by decide⟩), fun q hq => by cases hq⟩⟩
      | 7, _, hd =>
        obtain rfl := Option.some.inj hd
        exact ⟨rfl, rfl, by decide, fun i _ => ⟨(show aIn _ 0 from ⟨by decide, by decide⟩), fun q hq => by cases hq⟩⟩
      | 8, _, hd =>
        obtain rfl := Option.some.inj hd
        exact ⟨rfl, rfl, by decide, fun i _ => ⟨(show aIn _ 0 from ⟨by decide, by decide⟩), fun q hq => by cases hq⟩⟩
      | 9, _, hd =>
        obtain rfl := Option.some.inj hd
        exact ⟨rfl, rfl, by decide, fun i _ => ⟨(show aIn _ 0 from ⟨by decide, by decide⟩), fun q hq => by cases hq⟩⟩
      | 10, _, hd =>
        obtain rfl := Option.some.inj hd
        exact ⟨rfl, rfl, by decide, fun i _ => ⟨(show aIn _ 0 from ⟨by decide, by decide⟩), fun q hq => by cases hq⟩⟩
      | 11, _, hd =>
        obtain rfl := Option.some.inj hd
        exact ⟨rfl, rfl, by decide, fun i _ => ⟨(show aIn _ 0 from ⟨by decide, by decide⟩), fun q hq => by cases hq⟩⟩
      | 12, _, hd =>
        obtain rfl := Option.some.inj hd
        refine ⟨rfl, rfl, by decide, fun i _ => ⟨(show aIn _ 0 from ⟨by decide, by decide⟩), fun q hq h1 h2 => ?_⟩⟩
        have hz0 : (0 : Int32).toInt = 0 := rfl
        dsimp only
        rw [hz0]
        rcases List.mem_cons.mp hq with rfl | hq
        · dsimp only at h1 h2 ⊢
          omega
        rcases List.mem_cons.mp hq with rfl | hq
        · dsimp only at h1 h2 ⊢
          omega
        rcases List.mem_cons.mp hq with rfl | hq
        · dsimp only at h1 h2 ⊢
          omega
        rcases List.mem_cons.mp hq with rfl | hq
        · dsimp only at h1 h2 ⊢
          omega
        rcases List.mem_cons.mp hq with rfl | hq
        · dsimp only at h1 h2 ⊢
          omega
        rcases List.mem_cons.mp hq with rfl | hq
        · dsimp only at h1 h2 ⊢
          omega
        rcases List.mem_cons.mp hq with rfl | hq
        · dsimp only at h1 h2 ⊢
          omega
        rcases List.mem_cons.mp hq with rfl | hq
        · dsimp only at h1 h2 ⊢
          omega
        rcases List.mem_cons.mp hq with rfl | hq
        · dsimp only at h1 h2 ⊢
          omega
        rcases List.mem_cons.mp hq with rfl | hq
        · dsimp only at h1 h2 ⊢
          omega
        rcases List.mem_cons.mp hq with rfl | hq
        · dsimp only at h1 h2 ⊢
          omega
        rcases List.mem_cons.mp hq with rfl | hq
        · dsimp only at h1 h2 ⊢
          omega
        rcases List.mem_cons.mp hq with rfl | hq
        · dsimp only at h1 h2 ⊢
          omega
        rcases List.mem_cons.mp hq with rfl | hq
        · dsimp only at h1 h2 ⊢
          omega
        rcases List.mem_cons.mp hq with rfl | hq
        · dsimp only at h1 h2 ⊢
          omega
        rcases List.mem_cons.mp hq with rfl | hq
        · dsimp only at h1 h2 ⊢
          omega
        cases hq
      | 13, _, hd =>
        obtain rfl := Option.some.inj hd
        exact ⟨rfl, rfl, by decide, fun i _ => ⟨(show aIn _ 0 from ⟨by decide, by decide⟩), fun q hq => by cases hq⟩⟩
      | 14, _, hd =>
        obtain rfl := Option.some.inj hd
        exact ⟨rfl, rfl, by decide, fun i _ => ⟨(show aIn _ 0 from ⟨by decide, by decide⟩), fun q hq => by cases hq⟩⟩
      | 15, _, hd =>
        obtain rfl := Option.some.inj hd
        exact ⟨rfl, rfl, by decide, fun i _ => ⟨(show aIn _ 0 from ⟨by decide, by decide⟩), fun q hq => by cases hq⟩⟩
      | 16, _, hd =>
        obtain rfl := Option.some.inj hd
        exact ⟨rfl, rfl, by decide, fun i _ => ⟨(show aIn _ 0 from ⟨by decide, by decide⟩), fun q hq => by cases hq⟩⟩
      | 17, _, hd =>
        obtain rfl := Option.some.inj hd
        exact ⟨rfl, rfl, by decide, fun i _ => ⟨(show aIn _ 0 from ⟨by decide, by decide⟩), fun q hq => by cases hq⟩⟩
      | 18, _, hd =>
        obtain rfl := Option.some.inj hd
        exact ⟨rfl, rfl, by decide, fun i _ => ⟨(show aIn _ 0 from ⟨by decide, by decide⟩), fun q hq => by cases hq⟩⟩
      | 19, _, hd =>
        obtain rfl := Option.some.inj hd
        exact ⟨rfl, rfl, by decide, fun i _ => ⟨(show aIn _ 0 from ⟨by decide, by decide⟩), fun q hq => by cases hq⟩⟩
      | 20, _, hd =>
        obtain rfl := Option.some.inj hd
        exact ⟨rfl, rfl, by decide, fun i _ => ⟨(show aIn _ 0 from ⟨by decide, by decide⟩), fun q hq => by cases hq⟩⟩
      | 21, _, hd =>
        obtain rfl := Option.some.inj hd
        refine ⟨rfl, rfl, by decide, fun i _ => ⟨(show aIn _ 0 from ⟨by decide, by decide⟩), fun q hq h1 h2 => ?_⟩⟩
        have hz0 : (0 : Int32).toInt = 0 := rfl
        dsimp only
        rw [hz0]
        rcases List.mem_cons.mp hq with rfl | hq
        · dsimp only at h1 h2 ⊢
          omega
        rcases List.mem_cons.mp hq with rfl | hq
        · dsimp only at h1 h2 ⊢
          omega
        rcases List.mem_cons.mp hq with rfl | hq
        · dsimp only at h1 h2 ⊢
          omega
        rcases List.mem_cons.mp hq with rfl | hq
        · dsimp only at h1 h2 ⊢
          omega
        rcases List.mem_cons.mp hq with rfl | hq
        · dsimp only at h1 h2 ⊢
          omega
        rcases List.mem_cons.mp hq with rfl | hq
        · dsimp only at h1 h2 ⊢
          omega
        rcases List.mem_cons.mp hq with rfl | hq
        · dsimp only at h1 h2 ⊢
          omega
        rcases List.mem_cons.mp hq with rfl | hq
        · dsimp only at h1 h2 ⊢
          omega
        cases hq
      | 22, _, hd =>
        obtain rfl := Option.some.inj hd
        exact ⟨rfl, rfl, by decide, fun i _ => ⟨(show aIn _ 0 from ⟨by decide, by decide⟩), fun q hq => by cases hq⟩⟩
      | 23, _, hd =>
        obtain rfl := Option.some.inj hd
        exact ⟨rfl, rfl, by decide, fun i _ => ⟨(show aIn _ 0 from ⟨by decide, by decide⟩), fun q hq => by cases hq⟩⟩
      | 24, _, hd =>
        obtain rfl := Option.some.inj hd
        exact ⟨rfl, rfl, by decide, fun i _ => ⟨(show aIn _ 0 from ⟨by decide, by decide⟩), fun q hq => by cases hq⟩⟩
      | j + 25, hp, _ => omega
theorem zT_pic {σ σ1 : Nat → jcell} {a n : Nat} (ha : a < n) (h : aH fa_T (zKT a n) (n + 25) σ1) (hd : ∀ p, p < n → p ≠ a → σ1 p = σ p) : ∃ F A, ∀ p, p < n + 25 → σ1 p = txA σ a n F A p := by
  obtain ⟨fs, e1, e2, e3⟩ := aCe_obj (h a (by omega) _ (by rw [zKT_a]; rfl))
  have hl : fs.length = 40 := e2
  refine ⟨fun k => (match fs[k]? with
    | some (.inl x) => x
    | _ => 0), fun j => (match σ1 (n + j) with
    | .inl (_, _, .inl g) => g
    | _ => fun _ => 0), fun p hp => ?_⟩
  by_cases e : p = a
  · subst e
    rw [ta_a, e1]
    congr 2
    apply List.ext_getElem?
    intro f
    have hg : ∀ f, f < 40 → fs[f]? = some (fs.getD f (.inl 0)) := fun f hf => by
      rw [List.getD, List.getElem?_eq_getElem (by omega)]
      rfl
    have hi : ∀ (f : Nat) (q : Int × Int), f < 40 → ([.inl (0, 2), .inl (0, 65536), .inr (some (.inl (false, 63))), .inl (0, 80000), .inr (some (.inl (false, 64))), .inl (0, 1), .inl (0, 300), .inr (some (.inl (false, 65))), .inr (some (.inl (false, 66))), .inr (some (.inl (false, 67))), .inr (some (.inl (false, 68))), .inr (some (.inl (false, 69))), .inr (some (.inl (false, 70))), .inr (some (.inl (false, 71))), .inr (some (.inl (false, 72))), .inr (some (.inl (false, 73))), .inr (some (.inl (false, 74))), .inr (some (.inl (false, 75))), .inr (some (.inl (false, 76))), .inr (some (.inl (false, 77))), .inr (some (.inl (false, 78))), .inr (some (.inl (false, 79))), .inr (some (.inl (false, 80))), .inr (some (.inl (false, 81))), .inr (some (.inl (false, 82))), .inl (0, 1), .inl (0, 15), .inl (-1, 63), .inl (-2147483648, 2147483647), .inl (-1, 1299), .inr (some (.inl (false, 83))), .inr (some (.inl (false, 84))), .inr (some (.inl (false, 85))), .inl (0, 2048), .inr (some (.inl (false, 86))), .inr (some (.inl (false, 87))), .inl (0, 16), .inl (0, 131072), .inl (0, 1800), .inl (0, 1536)] : List aT)[f]? = some (.inl q) → fs[f]? = some (.inl (match fs[f]? with
      | some (.inl x) => x
      | _ => 0)) := fun f q hf ht => by
      have h1 := hg f hf
      obtain ⟨x, hx, -⟩ := aG_int (e3 f _ _ ht h1)
      rw [h1, hx]
    have hr : ∀ (f j : Nat), f < 40 → j < 25 → ([.inl (0, 2), .inl (0, 65536), .inr (some (.inl (false, 63))), .inl (0, 80000), .inr (some (.inl (false, 64))), .inl (0, 1), .inl (0, 300), .inr (some (.inl (false, 65))), .inr (some (.inl (false, 66))), .inr (some (.inl (false, 67))), .inr (some (.inl (false, 68))), .inr (some (.inl (false, 69))), .inr (some (.inl (false, 70))), .inr (some (.inl (false, 71))), .inr (some (.inl (false, 72))), .inr (some (.inl (false, 73))), .inr (some (.inl (false, 74))), .inr (some (.inl (false, 75))), .inr (some (.inl (false, 76))), .inr (some (.inl (false, 77))), .inr (some (.inl (false, 78))), .inr (some (.inl (false, 79))), .inr (some (.inl (false, 80))), .inr (some (.inl (false, 81))), .inr (some (.inl (false, 82))), .inl (0, 1), .inl (0, 15), .inl (-1, 63), .inl (-2147483648, 2147483647), .inl (-1, 1299), .inr (some (.inl (false, 83))), .inr (some (.inl (false, 84))), .inr (some (.inl (false, 85))), .inl (0, 2048), .inr (some (.inl (false, 86))), .inr (some (.inl (false, 87))), .inl (0, 16), .inl (0, 131072), .inl (0, 1800), .inl (0, 1536)] : List aT)[f]? = some (.inr (some (.inl (false, 63 + j)))) → fs[f]? = some (.inr (.inr (some (.inl (n + j))))) := fun f j hf hj ht => by
      have h1 := hg f hf
      obtain ⟨b, hb, b1, b2⟩ := rG_ref (by omega) (e3 f _ _ ht h1)
      rw [h1, hb, zKT_u ha hj b2]
    match f with
    | 0 => exact hi 0 _ (by decide) rfl
    | 1 => exact hi 1 _ (by decide) rfl
    | 2 => exact hr 2 0 (by decide) (by decide) rfl
    | 3 => exact hi 3 _ (by decide) rfl
    | 4 => exact hr 4 1 (by decide) (by decide) rfl
    | 5 => exact hi 5 _ (by decide) rfl
    | 6 => exact hi 6 _ (by decide) rfl
    | 7 => exact hr 7 2 (by decide) (by decide) rfl
    | 8 => exact hr 8 3 (by decide) (by decide) rfl
    | 9 => exact hr 9 4 (by decide) (by decide) rfl
    | 10 => exact hr 10 5 (by decide) (by decide) rfl
    | 11 => exact hr 11 6 (by decide) (by decide) rfl
    | 12 => exact hr 12 7 (by decide) (by decide) rfl
    | 13 => exact hr 13 8 (by decide) (by decide) rfl
    | 14 => exact hr 14 9 (by decide) (by decide) rfl
    | 15 => exact hr 15 10 (by decide) (by decide) rfl
    | 16 => exact hr 16 11 (by decide) (by decide) rfl
    | 17 => exact hr 17 12 (by decide) (by decide) rfl
    | 18 => exact hr 18 13 (by decide) (by decide) rfl
    | 19 => exact hr 19 14 (by decide) (by decide) rfl
    | 20 => exact hr 20 15 (by decide) (by decide) rfl
    | 21 => exact hr 21 16 (by decide) (by decide) rfl
    | 22 => exact hr 22 17 (by decide) (by decide) rfl
    | 23 => exact hr 23 18 (by decide) (by decide) rfl
    | 24 => exact hr 24 19 (by decide) (by decide) rfl
    | 25 => exact hi 25 _ (by decide) rfl
    | 26 => exact hi 26 _ (by decide) rfl
    | 27 => exact hi 27 _ (by decide) rfl
    | 28 => exact hi 28 _ (by decide) rfl
    | 29 => exact hi 29 _ (by decide) rfl
    | 30 => exact hr 30 20 (by decide) (by decide) rfl
    | 31 => exact hr 31 21 (by decide) (by decide) rfl
    | 32 => exact hr 32 22 (by decide) (by decide) rfl
    | 33 => exact hi 33 _ (by decide) rfl
    | 34 => exact hr 34 23 (by decide) (by decide) rfl
    | 35 => exact hr 35 24 (by decide) (by decide) rfl
    | 36 => exact hi 36 _ (by decide) rfl
    | 37 => exact hi 37 _ (by decide) rfl
    | 38 => exact hi 38 _ (by decide) rfl
    | 39 => exact hi 39 _ (by decide) rfl
    | f + 40 => exact List.getElem?_eq_none (by omega)
  · by_cases hn : p < n
    · rw [hd p hn e]
      unfold txA
      rw [if_neg e, if_neg (by omega)]
    · obtain ⟨j, rfl⟩ := Nat.exists_eq_add_of_le (Nat.le_of_not_lt hn)
      rw [ta_g ha (by omega)]
      have hc : ∀ (q : FieldType × Nat × (Int × Int) × List (Nat × Nat × Int × Int × Int)) (c : jcell), ¬ q.1 = .long → aCe (zKT a n) (n + 25) (.inl q) c → c = .inl (q.1, q.2.1, .inl (match c with
        | .inl (_, _, .inl g) => g
        | _ => fun _ => 0)) := fun q c hl hc => by
        rcases c with ⟨t, m, g | g | g⟩ | y
        · rw [hc.1, hc.2.1]
        · exact absurd hc.2.2 hl
        · exact hc.elim
        · exact hc.elim
      match j, hp with
      | 0, hp => exact hc (.char, 65536, (0, 65535), []) _ (by decide) (h (n + 0) hp _ (by rw [zKT_r ha]; rfl))
      | 1, hp => exact hc (.char, 80000, (0, 65535), []) _ (by decide) (h (n + 1) hp _ (by rw [zKT_r ha]; rfl))
      | 2, hp => exact hc (.int, 2, (0, 300), []) _ (by decide) (h (n + 2) hp _ (by rw [zKT_r ha]; rfl))
      | 3, hp => exact hc (.int, 602, (-1, 300), [(1, 301, 1, -1, -1), (302, 602, 1, -1, -302), (1, 301, 0, 1, 0), (302, 602, 0, 1, 0)]) _ (by decide) (h (n + 3) hp _ (by rw [zKT_r ha]; rfl))
      | 4, hp => exact hc (.int, 602, (-1, 24575), [(1, 301, 0, 1, 0), (302, 602, 0, 1, 0)]) _ (by decide) (h (n + 4) hp _ (by rw [zKT_r ha]; rfl))
      | 5, hp => exact hc (.int, 602, (-1, 300), []) _ (by decide) (h (n + 5) hp _ (by rw [zKT_r ha]; rfl))
      | 6, hp => exact hc (.int, 602, (-1, 300), []) _ (by decide) (h (n + 6) hp _ (by rw [zKT_r ha]; rfl))
      | 7, hp => exact hc (.int, 602, (0, 4), []) _ (by decide) (h (n + 7) hp _ (by rw [zKT_r ha]; rfl))
      | 8, hp => exact hc (.int, 2408, (0, 255), []) _ (by decide) (h (n + 8) hp _ (by rw [zKT_r ha]; rfl))
      | 9, hp => exact hc (.int, 602, (0, 200), []) _ (by decide) (h (n + 9) hp _ (by rw [zKT_r ha]; rfl))
      | 10, hp => exact hc (.char, 120400, (0, 65535), []) _ (by decide) (h (n + 10) hp _ (by rw [zKT_r ha]; rfl))
      | 11, hp => exact hc (.int, 128, (0, 15), []) _ (by decide) (h (n + 11) hp _ (by rw [zKT_r ha]; rfl))
      | 12, hp => exact hc (.int, 10, (-2147483648, 2147483647), [(0, 1, 0, 1, 0), (0, 1, 0, -1, 1), (1, 2, 0, 1, 0), (1, 2, 0, -1, 15), (2, 3, 0, 1, 1), (2, 3, 0, -1, 63), (4, 5, 0, 1, 0), (4, 5, 0, -1, 1299), (5, 6, 0, 1, 0), (5, 6, 0, -1, 1), (6, 7, 0, 1, 0), (6, 7, 0, -1, 15), (7, 8, 0, 1, 1), (7, 8, 0, -1, 63), (9, 10, 0, 1, 0), (9, 10, 0, -1, 1299)]) _ (by decide) (h (n + 12) hp _ (by rw [zKT_r ha]; rfl))
      | 13, hp => exact hc (.int, 2, (0, 8), []) _ (by decide) (h (n + 13) hp _ (by rw [zKT_r ha]; rfl))
      | 14, hp => exact hc (.int, 16, (0, 12), []) _ (by decide) (h (n + 14) hp _ (by rw [zKT_r ha]; rfl))
      | 15, hp => exact hc (.char, 192, (0, 65535), []) _ (by decide) (h (n + 15) hp _ (by rw [zKT_r ha]; rfl))
      | 16, hp => exact hc (.int, 16, (0, 96), []) _ (by decide) (h (n + 16) hp _ (by rw [zKT_r ha]; rfl))
      | 17, hp => exact hc (.char, 1536, (0, 65535), []) _ (by decide) (h (n + 17) hp _ (by rw [zKT_r ha]; rfl))
      | 18, hp => exact hc (.int, 2, (0, 3), []) _ (by decide) (h (n + 18) hp _ (by rw [zKT_r ha]; rfl))
      | 19, hp => exact hc (.int, 64, (0, 15), []) _ (by decide) (h (n + 19) hp _ (by rw [zKT_r ha]; rfl))
      | 20, hp => exact hc (.int, 64, (0, 15), []) _ (by decide) (h (n + 20) hp _ (by rw [zKT_r ha]; rfl))
      | 21, hp => exact hc (.int, 5, (-2147483648, 2147483647), [(0, 1, 0, 1, 0), (0, 1, 0, -1, 1), (1, 2, 0, 1, 0), (1, 2, 0, -1, 15), (2, 3, 0, 1, 1), (2, 3, 0, -1, 63), (4, 5, 0, 1, 0), (4, 5, 0, -1, 1299)]) _ (by decide) (h (n + 21) hp _ (by rw [zKT_r ha]; rfl))
      | 22, hp => exact hc (.int, 2048, (0, 24575), []) _ (by decide) (h (n + 22) hp _ (by rw [zKT_r ha]; rfl))
      | 23, hp => exact hc (.int, 301, (0, 300), []) _ (by decide) (h (n + 23) hp _ (by rw [zKT_r ha]; rfl))
      | 24, hp => exact hc (.char, 16, (0, 65535), []) _ (by decide) (h (n + 24) hp _ (by rw [zKT_r ha]; rfl))
      | j + 25, hp => omega
noncomputable def zWT (σ : Nat → jcell) (a n : Nat) (w : gV) : Prop := w.1 = zKT a n ∧ w.2.1 = n + 25 ∧ w.2.2.2 = (25, 276358) ∧ ∀ p, p < n + 25 → w.2.2.1 p = txA σ a n (fun _ => 0) (fun _ _ => 0) p
set_option maxRecDepth 100000 in
set_option maxHeartbeats 8000000 in
theorem cz_MT_init (l : Launch) (E : jE) (σ : Nat → jcell) (n : Nat) (a : Nat) (ha : a < n) (h : σ a = .inr (12, [.inl 0, .inl 0, .inr (.inr none), .inl 0, .inr (.inr none), .inl 0, .inl 0, .inr (.inr none), .inr (.inr none), .inr (.inr none), .inr (.inr none), .inr (.inr none), .inr (.inr none), .inr (.inr none), .inr (.inr none), .inr (.inr none), .inr (.inr none), .inr (.inr none), .inr (.inr none), .inr (.inr none), .inr (.inr none), .inr (.inr none), .inr (.inr none), .inr (.inr none), .inr (.inr none), .inl 0, .inl 0, .inl 0, .inl 0, .inl 0, .inr (.inr none), .inr (.inr none), .inr (.inr none), .inl 0, .inr (.inr none), .inr (.inr none), .inl 0, .inl 0, .inl 0, .inl 0])) (hpl : ∀ p, p < n → zPl (σ p)) : jMet l E jcl jtb lw_tbl y_MT_init { frames := 7, cells := 25, slots := 276358, locals := 310 } [.inr (.inr (some (.inl (a))))] σ n (fun r σ' n' => ∃ F A, r = none ∧ n' = n + 25 ∧ (∀ p, p < n + 25 → σ' p = txA σ a n F A p) ∧ zFA a n F A) := by
  have h0 := ae_MTinit (l := l) (E := E) (F := fun K n => rH 0 K n) (JX := fun _ _ _ => True) (fun K n => rH_jx) (fun K n => rH_shf 0 K n) (fun K n => rH_dpa) (fun K n => rH_dpr) (fun K n => rH_dpm) (fun K n => rz_raC) (fun K n => rz_raN) (fun K n => rz_reC0) (fun K n => rz_reCG) (fun K n => rz_reE) (fun K n => rz_reG) (fun K n => rz_reND) (fun K n => rz_reR0) (fun K n => rz_reR1) (fun K n => rz_reR2) (fun K n => rz_reR3) (fun K n => rz_reS0) (fun K n => rz_reSn) (fun K n => rz_reSs) (fun K n => rz_reU0) (fun K n => rz_reU1) (fun K n => rz_reU10) (fun K n => rz_reU11) (fun K n => rz_reU12) (fun K n => rz_reU13) (fun K n => rz_reU14) (fun K n => rz_reU15) (fun K n => rz_reU16) (fun K n => rz_reU17) (fun K n => rz_reU18) (fun K n => rz_reU19) (fun K n => rz_reU2) (fun K n => rz_reU20) (fun K n => rz_reU21) (fun K n => rz_reU22) (fun K n => rz_reU23) (fun K n => rz_reU24) (fun K n => rz_reU25) (fun K n => rz_reU26) (fun K n => rz_reU27) (fun K n => rz_reU28) (fun K n => rz_reU29) (fun K n => rz_reU3) (fun K n => rz_reU30) (fun K n => rz_reU31) (fun K n => rz_reU4) (fun K n => rz_reU5) (fun K n => rz_reU6) (fun K n => rz_reU7) (fun K n => rz_reU8) (fun K n => rz_reU9) (fun K n => rz_reZ0) (fun K n => rz_reZe) (fun K n => rz_reZn) (fun K n => rz_reZs) (fun K n => rz_rqG1) (fun K n => rz_rqG2) (fun K n => rz_rqG3) (fun K n => rz_rsJ) (fun K n => rz_rvAL) (fun K n => rz_rvCLX) (fun K n => rz_rvDIR) (fun K n => rz_rvDM) (fun K n => rz_rvKD) (fun K n => rz_rvLO0) (fun K n => rz_rvLO1) (fun K n => rz_rvLO10) (fun K n => rz_rvLO2) (fun K n => rz_rvLO3) (fun K n => rz_rvLO4) (fun K n => rz_rvLO5) (fun K n => rz_rvLO6) (fun K n => rz_rvLO7) (fun K n => rz_rvLO8) (fun K n => rz_rvLO9) (fun K n => rz_rvM4d1) (fun K n => rz_rvM4d2) (fun K n => rz_rvM4u1) (fun K n => rz_rvM4u2) (fun K n => rz_rvM5d) (fun K n => rz_rvM5u) (fun K n => rz_rvQID) (fun K n => rz_rvSD) (fun K n => rz_rvSGa) (fun K n => rz_rvSGb) (fun K n => rz_rvSGn) (fun K n => rz_rvSQ1) (fun K n => rz_rvST1) (fun K n => rz_rvSTna) (fun K n => rz_rvSTnb) (fun K n => rz_rvSTnc) (fun K n => rz_rvSTnd) (fun K n => rz_rvTK) (fun K n => rz_rvTR64) (fun K n => rz_rvTRI) (fun K n => rz_rvTRI0b) (fun K n => rz_rvTRv) (fun K n => rz_rwA0) (fun K n => rz_rwA7) (fun K n => rz_rwAe) (fun K n => rz_rwAm) (fun K n => rz_rwAn) (fun K n => rz_rwAo) (fun K n => rz_rwAo0) (fun K n => rz_rwB00) (fun K n => rz_rwB01) (fun K n => rz_rwB02) (fun K n => rz_rwB1) (fun K n => rz_rwB2) (fun K n => rz_rwB5) (fun K n => rz_rwBB0) (fun K n => rz_rwBBe) (fun K n => rz_rwBBn) (fun K n => rz_rwBBs) (fun K n => rz_rwBR0) (fun K n => rz_rwBR1) (fun K n => rz_rwBR2) (fun K n => rz_rwC00) (fun K n => rz_rwC01) (fun K n => rz_rwC1) (fun K n => rz_rwC2) (fun K n => rz_rwCT10) (fun K n => rz_rwCT11) (fun K n => rz_rwCi0) (fun K n => rz_rwCi1) (fun K n => rz_rwCi2) (fun K n => rz_rwCie) (fun K n => rz_rwCis) (fun K n => rz_rwDV) (fun K n => rz_rwFDd) (fun K n => rz_rwFDu) (fun K n => rz_rwFE0) (fun K n => rz_rwFE1) (fun K n => rz_rwFL0) (fun K n => rz_rwFLn) (fun K n => rz_rwFLz) (fun K n => rz_rwFMA) (fun K n => rz_rwFR) (fun K n => rz_rwG0) (fun K n => rz_rwGC00) (fun K n => rz_rwGC01) (fun K n => rz_rwGC10) (fun K n => rz_rwGC11) (fun K n => rz_rwGD34) (fun K n => rz_rwGD35) (fun K n => rz_rwGD36) (fun K n => rz_rwGD37) (fun K n => rz_rwGD40) (fun K n => rz_rwGD41) (fun K n => rz_rwGD42) (fun K n => rz_rwGD43) (fun K n => rz_rwGD50) (fun K n => rz_rwGD51) (fun K n => rz_rwGD52) (fun K n => rz_rwGD53) (fun K n => rz_rwGD54) (fun K n => rz_rwGD55) (fun K n => rz_rwGD56) (fun K n => rz_rwGD57) (fun K n => rz_rwGK) (fun K n => rz_rwGN) (fun K n => rz_rwGP) (fun K n => rz_rwGS) (fun K n => rz_rwIC) (fun K n => rz_rwK0) (fun K n => rz_rwK1d) (fun K n => rz_rwK1u) (fun K n => rz_rwK2d) (fun K n => rz_rwK2u) (fun K n => rz_rwK98) (fun K n => rz_rwK98b) (fun K n => rz_rwKP0) (fun K n => rz_rwKPe) (fun K n => rz_rwKPn) (fun K n => rz_rwKPs) (fun K n => rz_rwKR0) (fun K n => rz_rwKR1) (fun K n => rz_rwKR2) (fun K n => rz_rwKT) (fun K n => rz_rwKe) (fun K n => rz_rwKnd) (fun K n => rz_rwKnu) (fun K n => rz_rwKs) (fun K n => rz_rwKy) (fun K n => rz_rwMC0) (fun K n => rz_rwMC00) (fun K n => rz_rwMC01) (fun K n => rz_rwMC10) (fun K n => rz_rwMC11) (fun K n => rz_rwN98) (fun K n => rz_rwNEd) (fun K n => rz_rwNEu) (fun K n => rz_rwNH) (fun K n => rz_rwNOd) (fun K n => rz_rwNOu) (fun K n => rz_rwNZ) (fun K n => rz_rwNa) (fun K n => rz_rwNba) (fun K n => rz_rwNbb) (fun K n => rz_rwNbc) (fun K n => rz_rwNnd) (fun K n => rz_rwNnu) (fun K n => rz_rwNyld) (fun K n => rz_rwNylu) (fun K n => rz_rwNyrd) (fun K n => rz_rwNyru) (fun K n => rz_rwOW) (fun K n => rz_rwP0) (fun K n => rz_rwP1) (fun K n => rz_rwP1n) (fun K n => rz_rwPF) (fun K n => rz_rwPG0) (fun K n => rz_rwPG10) (fun K n => rz_rwPG11) (fun K n => rz_rwPG20) (fun K n => rz_rwPG21) (fun K n => rz_rwPG3l0) (fun K n => rz_rwPG3l1) (fun K n => rz_rwPG3r0) (fun K n => rz_rwPG3r1) (fun K n => rz_rwPG4l0) (fun K n => rz_rwPG4l1) (fun K n => rz_rwPG4r0) (fun K n => rz_rwPG4r1) (fun K n => rz_rwR1) (fun K n => rz_rwR2) (fun K n => rz_rwRG00) (fun K n => rz_rwRG01) (fun K n => rz_rwRG10) (fun K n => rz_rwRG11) (fun K n => rz_rwRK1) (fun K n => rz_rwRKa) (fun K n => rz_rwRKb) (fun K n => rz_rwRKd) (fun K n => rz_rwRM) (fun K n => rz_rwRM1) (fun K n => rz_rwRMa) (fun K n => rz_rwRMb) (fun K n => rz_rwRMe) (fun K n => rz_rwRT) (fun K n => rz_rwRY0) (fun K n => rz_rwRY1) (fun K n => rz_rwRY2) (fun K n => rz_rwRY3) (fun K n => rz_rwRY4) (fun K n => rz_rwRY5) (fun K n => rz_rwRY6) (fun K n => rz_rwRY7) (fun K n => rz_rwRYnd) (fun K n => rz_rwRYnu) (fun K n => rz_rwRYq0) (fun K n => rz_rwRYq1) (fun K n => rz_rwRYq2) (fun K n => rz_rwRYq3) (fun K n => rz_rwRYz) (fun K n => rz_rwS7) (fun K n => rz_rwSD0) (fun K n => rz_rwSD1) (fun K n => rz_rwSDa) (fun K n => rz_rwSDb) (fun K n => rz_rwSDx) (fun K n => rz_rwSF0) (fun K n => rz_rwSF1) (fun K n => rz_rwSO0) (fun K n => rz_rwSO1) (fun K n => rz_rwTCAd) (fun K n => rz_rwTCAu) (fun K n => rz_rwTH00) (fun K n => rz_rwTH01) (fun K n => rz_rwTH10) (fun K n => rz_rwTH11) (fun K n => rz_rwTM) (fun K n => rz_rwTNf0) (fun K n => rz_rwTNf1) (fun K n => rz_rwTNk0) (fun K n => rz_rwTNk1) (fun K n => rz_rwTNx00) (fun K n => rz_rwTNx01) (fun K n => rz_rwTNx11) (fun K n => rz_rwU0a) (fun K n => rz_rwU0b) (fun K n => rz_rwU0c) (fun K n => rz_rwU0p) (fun K n => rz_rwU1n) (fun K n => rz_rwU2) (fun K n => rz_rwU3a) (fun K n => rz_rwU3b) (fun K n => rz_rwWN0) (fun K n => rz_rwWN1) (fun K n => rz_rwWY) (fun K n => rz_rxB0) (fun K n => rz_rxE0) (fun K n => rz_rxEs) (fun K n => rz_rxF) (fun K n => rz_rxFs) (fun K n => rz_rxGY) (fun K n => rz_rxI0) (fun K n => rz_rxJ0) (fun K n => rz_rxJ1) (fun K n => rz_rxJb0) (fun K n => rz_rxJb1) (fun K n => rz_rxJe0) (fun K n => rz_rxJe1) (fun K n => rz_rxJs) (fun K n => rz_rxJy) (fun K n => rz_rxL0) (fun K n => rz_rxLG0) (fun K n => rz_rxLG1) (fun K n => rz_rxLS0a) (fun K n => rz_rxLS0c) (fun K n => rz_rxLS1a) (fun K n => rz_rxLS1b) (fun K n => rz_rxLn) (fun K n => rz_rxLs) (fun K n => rz_rxSG) (fun K n => rz_rzE) (fun K n => rz_rzG) (fun K n => rz_rzM0) (fun K n => rz_rzMn) (fun K n => rz_rzMs) (fun K n => rz_rzN) (fun K n => rz_rzNp) (fun K n => rz_rzP0) (fun K n => rz_rzPe) (fun K n => rz_rzPn) (fun K n => rz_rzPs) (fun K n => rz_rzR0) (fun K n => rz_rzR1) (fun K n => rz_rzR2) (fun K n => rz_rzRn) (fun K n => rz_rzS0) (fun K n => rz_rzSL) (fun K n => rz_rzT1) (fun K n => rz_rzT2) (fun K n => rz_rzT3)
  have hmd : ∀ p, p < n → p ≠ a → (∀ q ∈ am_MTinit.2.1.2.2.2.1, ¬ q.1 = zKT a n p) ∧ (∀ q ∈ am_MTinit.2.1.2.2.2.2.1, ¬ q.1 = zKT a n p) := fun p hp hne => by
    rw [zKT_d hp hne]
    exact ⟨fun q hq e => absurd (List.all_eq_true.mp (show am_MTinit.2.1.2.2.2.1.all (fun q => !Nat.beq q.1 999) = true by decide +kernel) q hq) (by rw [e]; decide), fun q hq e => absurd (List.all_eq_true.mp (show am_MTinit.2.1.2.2.2.2.1.all (fun q => !Nat.beq q.1 999) = true by decide +kernel) q hq) (by rw [e]; decide)⟩
  refine jMet_ofG (hY := rfl) true (fun _ => rfl) (by decide) (Nat.le_of_ble_eq_true rfl) [some (.inr (.inr (some (.inl (a)))))] rfl ?_
  intro M hl hR X hr hsz
  have X0 : jX E "ChessHouseModel$Texts" lw_tbl jcl jtb 1 false prog_18_method_1_code M := ⟨X.1, X.2.1, X.2.2.1, X.2.2.2.1, X.2.2.2.2.1, X.2.2.2.2.2.1, X.2.2.2.2.2.2.1, fun h => by cases h⟩
  have hak : ∀ k, (a < n + k) = True := fun k => eq_true (by omega)
  have hak0 : (a < n) = True := eq_true ha
  refine jmk_in h ?_
  refine jrun_ok jC X k_MT_init_0 0 _ _ _ o_MT_init_0 ?_
  simp only [k_MT_init_0, jrun, jstep, jldi, jldl, jlda, j1, j2, jl1, jl2, jli, ja1, jbr, jald, jast, jlald, jlast, jalen, jget, jput, jfit, jdup, jdupx, jdupx2, jdup2, jcat, jset1, jset2, jkill, List.getElem?_cons_zero, List.getElem?_cons_succ, List.set_cons_zero, List.set_cons_succ, List.length_cons, List.length_nil, Nat.reduceAdd, Nat.reduceLT, Int32.reduceToNatClampNeg, true_and, and_true, and_self, reduceCtorEq, not_false_eq_true, false_and, and_false, or_false, false_or, true_or, or_true, jmk_a, jmk_put, hak, hak0]
  refine jk_oi X hR (w1 := 1913) (w2 := 340) (w3 := 341) d_MT_init_1 (by decide +kernel) (by decide +kernel) (by decide +kernel) (Nat.le_of_ble_eq_true rfl) (Nat.le_of_ble_eq_true rfl) (pc' := 4) rfl ?_
  refine jrun_ok jC X k_MT_init_4 4 _ _ _ o_MT_init_4 ?_
  simp only [k_MT_init_4, jrun, jstep, jldi, jldl, jlda, j1, j2, jl1, jl2, jli, ja1, jbr, jald, jast, jlald, jlast, jalen, jget, jput, jfit, jdup, jdupx, jdupx2, jdup2, jcat, jset1, jset2, jkill, List.getElem?_cons_zero, List.getElem?_cons_succ, List.set_cons_zero, List.set_cons_succ, List.length_cons, List.length_nil, Nat.reduceAdd, Nat.reduceLT, Int32.reduceToNatClampNeg, true_and, and_true, and_self, reduceCtorEq, not_false_eq_true, false_and, and_false, or_false, false_or, true_or, or_true, jmk_a, jmk_put, hak, hak0]
  refine jc_na X hR (w1 := 2162) d_MT_init_7 rfl (by decide +kernel) (by decide) (by decide) 65536 (by decide) (by decide) rfl [.inl (.char, 65536, .inl fun _ => 0)] ha rfl rfl (n' := n + 1) rfl (c' := 1) rfl (s' := 65536) rfl ⟨Nat.le_of_ble_eq_true rfl, Nat.le_of_ble_eq_true rfl⟩ (pc' := 9) rfl ?_
  refine jrun_ok jC X k_MT_init_9 9 _ _ _ o_MT_init_9 ?_
  simp only [k_MT_init_9, jrun, jstep, jldi, jldl, jlda, j1, j2, jl1, jl2, jli, ja1, jbr, jald, jast, jlald, jlast, jalen, jget, jput, jfit, jdup, jdupx, jdupx2, jdup2, jcat, jset1, jset2, jkill, List.getElem?_cons_zero, List.getElem?_cons_succ, List.set_cons_zero, List.set_cons_succ, List.length_cons, List.length_nil, Nat.reduceAdd, Nat.reduceLT, Int32.reduceToNatClampNeg, true_and, and_true, and_self, reduceCtorEq, not_false_eq_true, false_and, and_false, or_false, false_or, true_or, or_true, jmk_a, jmk_put, hak, hak0]
  refine jc_na X hR (w1 := 2162) d_MT_init_15 rfl (by decide +kernel) (by decide) (by decide) 80000 (by decide) (by decide) rfl [.inl (.char, 65536, .inl fun _ => 0), .inl (.char, 80000, .inl fun _ => 0)] ha rfl rfl (n' := n + 2) rfl (c' := 2) rfl (s' := 145536) rfl ⟨Nat.le_of_ble_eq_true rfl, Nat.le_of_ble_eq_true rfl⟩ (pc' := 17) rfl ?_
  refine jrun_ok jC X k_MT_init_17 17 _ _ _ o_MT_init_17 ?_
  simp only [k_MT_init_17, jrun, jstep, jldi, jldl, jlda, j1, j2, jl1, jl2, jli, ja1, jbr, jald, jast, jlald, jlast, jalen, jget, jput, jfit, jdup, jdupx, jdupx2, jdup2, jcat, jset1, jset2, jkill, List.getElem?_cons_zero, List.getElem?_cons_succ, List.set_cons_zero, List.set_cons_succ, List.length_cons, List.length_nil, Nat.reduceAdd, Nat.reduceLT, Int32.reduceToNatClampNeg, true_and, and_true, and_self, reduceCtorEq, not_false_eq_true, false_and, and_false, or_false, false_or, true_or, or_true, jmk_a, jmk_put, hak, hak0]
  refine jc_na X hR (w1 := 387) d_MT_init_22 rfl (by decide +kernel) (by decide) (by decide) 2 (by decide) (by decide) rfl [.inl (.char, 65536, .inl fun _ => 0), .inl (.char, 80000, .inl fun _ => 0), .inl (.int, 2, .inl fun _ => 0)] ha rfl rfl (n' := n + 3) rfl (c' := 3) rfl (s' := 145538) rfl ⟨Nat.le_of_ble_eq_true rfl, Nat.le_of_ble_eq_true rfl⟩ (pc' := 24) rfl ?_
  refine jrun_ok jC X k_MT_init_24 24 _ _ _ o_MT_init_24 ?_
  simp only [k_MT_init_24, jrun, jstep, jldi, jldl, jlda, j1, j2, jl1, jl2, jli, ja1, jbr, jald, jast, jlald, jlast, jalen, jget, jput, jfit, jdup, jdupx, jdupx2, jdup2, jcat, jset1, jset2, jkill, List.getElem?_cons_zero, List.getElem?_cons_succ, List.set_cons_zero, List.set_cons_succ, List.length_cons, List.length_nil, Nat.reduceAdd, Nat.reduceLT, Int32.reduceToNatClampNeg, true_and, and_true, and_self, reduceCtorEq, not_false_eq_true, false_and, and_false, or_false, false_or, true_or, or_true, jmk_a, jmk_put, hak, hak0]
  refine jc_na X hR (w1 := 387) d_MT_init_31 rfl (by decide +kernel) (by decide) (by decide) 602 (by decide) (by decide) rfl [.inl (.char, 65536, .inl fun _ => 0), .inl (.char, 80000, .inl fun _ => 0), .inl (.int, 2, .inl fun _ => 0), .inl (.int, 602, .inl fun _ => 0)] ha rfl rfl (n' := n + 4) rfl (c' := 4) rfl (s' := 146140) rfl ⟨Nat.le_of_ble_eq_true rfl, Nat.le_of_ble_eq_true rfl⟩ (pc' := 33) rfl ?_
  refine jrun_ok jC X k_MT_init_33 33 _ _ _ o_MT_init_33 ?_
  simp only [k_MT_init_33, jrun, jstep, jldi, jldl, jlda, j1, j2, jl1, jl2, jli, ja1, jbr, jald, jast, jlald, jlast, jalen, jget, jput, jfit, jdup, jdupx, jdupx2, jdup2, jcat, jset1, jset2, jkill, List.getElem?_cons_zero, List.getElem?_cons_succ, List.set_cons_zero, List.set_cons_succ, List.length_cons, List.length_nil, Nat.reduceAdd, Nat.reduceLT, Int32.reduceToNatClampNeg, true_and, and_true, and_self, reduceCtorEq, not_false_eq_true, false_and, and_false, or_false, false_or, true_or, or_true, jmk_a, jmk_put, hak, hak0]
  refine jc_na X hR (w1 := 387) d_MT_init_40 rfl (by decide +kernel) (by decide) (by decide) 602 (by decide) (by decide) rfl [.inl (.char, 65536, .inl fun _ => 0), .inl (.char, 80000, .inl fun _ => 0), .inl (.int, 2, .inl fun _ => 0), .inl (.int, 602, .inl fun _ => 0), .inl (.int, 602, .inl fun _ => 0)] ha rfl rfl (n' := n + 5) rfl (c' := 5) rfl (s' := 146742) rfl ⟨Nat.le_of_ble_eq_true rfl, Nat.le_of_ble_eq_true rfl⟩ (pc' := 42) rfl ?_
  refine jrun_ok jC X k_MT_init_42 42 _ _ _ o_MT_init_42 ?_
  simp only [k_MT_init_42, jrun, jstep, jldi, jldl, jlda, j1, j2, jl1, jl2, jli, ja1, jbr, jald, jast, jlald, jlast, jalen, jget, jput, jfit, jdup, jdupx, jdupx2, jdup2, jcat, jset1, jset2, jkill, List.getElem?_cons_zero, List.getElem?_cons_succ, List.set_cons_zero, List.set_cons_succ, List.length_cons, List.length_nil, Nat.reduceAdd, Nat.reduceLT, Int32.reduceToNatClampNeg, true_and, and_true, and_self, reduceCtorEq, not_false_eq_true, false_and, and_false, or_false, false_or, true_or, or_true, jmk_a, jmk_put, hak, hak0]
  refine jc_na X hR (w1 := 387) d_MT_init_49 rfl (by decide +kernel) (by decide) (by decide) 602 (by decide) (by decide) rfl [.inl (.char, 65536, .inl fun _ => 0), .inl (.char, 80000, .inl fun _ => 0), .inl (.int, 2, .inl fun _ => 0), .inl (.int, 602, .inl fun _ => 0), .inl (.int, 602, .inl fun _ => 0), .inl (.int, 602, .inl fun _ => 0)] ha rfl rfl (n' := n + 6) rfl (c' := 6) rfl (s' := 147344) rfl ⟨Nat.le_of_ble_eq_true rfl, Nat.le_of_ble_eq_true rfl⟩ (pc' := 51) rfl ?_
  refine jrun_ok jC X k_MT_init_51 51 _ _ _ o_MT_init_51 ?_
  simp only [k_MT_init_51, jrun, jstep, jldi, jldl, jlda, j1, j2, jl1, jl2, jli, ja1, jbr, jald, jast, jlald, jlast, jalen, jget, jput, jfit, jdup, jdupx, jdupx2, jdup2, jcat, jset1, jset2, jkill, List.getElem?_cons_zero, List.getElem?_cons_succ, List.set_cons_zero, List.set_cons_succ, List.length_cons, List.length_nil, Nat.reduceAdd, Nat.reduceLT, Int32.reduceToNatClampNeg, true_and, and_true, and_self, reduceCtorEq, not_false_eq_true, false_and, and_false, or_false, false_or, true_or, or_true, jmk_a, jmk_put, hak, hak0]
  refine jc_na X hR (w1 := 387) d_MT_init_58 rfl (by decide +kernel) (by decide) (by decide) 602 (by decide) (by decide) rfl [.inl (.char, 65536, .inl fun _ => 0), .inl (.char, 80000, .inl fun _ => 0), .inl (.int, 2, .inl fun _ => 0), .inl (.int, 602, .inl fun _ => 0), .inl (.int, 602, .inl fun _ => 0), .inl (.int, 602, .inl fun _ => 0), .inl (.int, 602, .inl fun _ => 0)] ha rfl rfl (n' := n + 7) rfl (c' := 7) rfl (s' := 147946) rfl ⟨Nat.le_of_ble_eq_true rfl, Nat.le_of_ble_eq_true rfl⟩ (pc' := 60) rfl ?_
  refine jrun_ok jC X k_MT_init_60 60 _ _ _ o_MT_init_60 ?_
  simp only [k_MT_init_60, jrun, jstep, jldi, jldl, jlda, j1, j2, jl1, jl2, jli, ja1, jbr, jald, jast, jlald, jlast, jalen, jget, jput, jfit, jdup, jdupx, jdupx2, jdup2, jcat, jset1, jset2, jkill, List.getElem?_cons_zero, List.getElem?_cons_succ, List.set_cons_zero, List.set_cons_succ, List.length_cons, List.length_nil, Nat.reduceAdd, Nat.reduceLT, Int32.reduceToNatClampNeg, true_and, and_true, and_self, reduceCtorEq, not_false_eq_true, false_and, and_false, or_false, false_or, true_or, or_true, jmk_a, jmk_put, hak, hak0]
  refine jc_na X hR (w1 := 387) d_MT_init_67 rfl (by decide +kernel) (by decide) (by decide) 602 (by decide) (by decide) rfl [.inl (.char, 65536, .inl fun _ => 0), .inl (.char, 80000, .inl fun _ => 0), .inl (.int, 2, .inl fun _ => 0), .inl (.int, 602, .inl fun _ => 0), .inl (.int, 602, .inl fun _ => 0), .inl (.int, 602, .inl fun _ => 0), .inl (.int, 602, .inl fun _ => 0), .inl (.int, 602, .inl fun _ => 0)] ha rfl rfl (n' := n + 8) rfl (c' := 8) rfl (s' := 148548) rfl ⟨Nat.le_of_ble_eq_true rfl, Nat.le_of_ble_eq_true rfl⟩ (pc' := 69) rfl ?_
  refine jrun_ok jC X k_MT_init_69 69 _ _ _ o_MT_init_69 ?_
  simp only [k_MT_init_69, jrun, jstep, jldi, jldl, jlda, j1, j2, jl1, jl2, jli, ja1, jbr, jald, jast, jlald, jlast, jalen, jget, jput, jfit, jdup, jdupx, jdupx2, jdup2, jcat, jset1, jset2, jkill, List.getElem?_cons_zero, List.getElem?_cons_succ, List.set_cons_zero, List.set_cons_succ, List.length_cons, List.length_nil, Nat.reduceAdd, Nat.reduceLT, Int32.reduceToNatClampNeg, true_and, and_true, and_self, reduceCtorEq, not_false_eq_true, false_and, and_false, or_false, false_or, true_or, or_true, jmk_a, jmk_put, hak, hak0]
  refine jc_na X hR (w1 := 387) d_MT_init_76 rfl (by decide +kernel) (by decide) (by decide) 2408 (by decide) (by decide) rfl [.inl (.char, 65536, .inl fun _ => 0), .inl (.char, 80000, .inl fun _ => 0), .inl (.int, 2, .inl fun _ => 0), .inl (.int, 602, .inl fun _ => 0), .inl (.int, 602, .inl fun _ => 0), .inl (.int, 602, .inl fun _ => 0), .inl (.int, 602, .inl fun _ => 0), .inl (.int, 602, .inl fun _ => 0), .inl (.int, 2408, .inl fun _ => 0)] ha rfl rfl (n' := n + 9) rfl (c' := 9) rfl (s' := 150956) rfl ⟨Nat.le_of_ble_eq_true rfl, Nat.le_of_ble_eq_true rfl⟩ (pc' := 78) rfl ?_
  refine jrun_ok jC X k_MT_init_78 78 _ _ _ o_MT_init_78 ?_
  simp only [k_MT_init_78, jrun, jstep, jldi, jldl, jlda, j1, j2, jl1, jl2, jli, ja1, jbr, jald, jast, jlald, jlast, jalen, jget, jput, jfit, jdup, jdupx, jdupx2, jdup2, jcat, jset1, jset2, jkill, List.getElem?_cons_zero, List.getElem?_cons_succ, List.set_cons_zero, List.set_cons_succ, List.length_cons, List.length_nil, Nat.reduceAdd, Nat.reduceLT, Int32.reduceToNatClampNeg, true_and, and_true, and_self, reduceCtorEq, not_false_eq_true, false_and, and_false, or_false, false_or, true_or, or_true, jmk_a, jmk_put, hak, hak0]
  refine jc_na X hR (w1 := 387) d_MT_init_85 rfl (by decide +kernel) (by decide) (by decide) 602 (by decide) (by decide) rfl [.inl (.char, 65536, .inl fun _ => 0), .inl (.char, 80000, .inl fun _ => 0), .inl (.int, 2, .inl fun _ => 0), .inl (.int, 602, .inl fun _ => 0), .inl (.int, 602, .inl fun _ => 0), .inl (.int, 602, .inl fun _ => 0), .inl (.int, 602, .inl fun _ => 0), .inl (.int, 602, .inl fun _ => 0), .inl (.int, 2408, .inl fun _ => 0), .inl (.int, 602, .inl fun _ => 0)] ha rfl rfl (n' := n + 10) rfl (c' := 10) rfl (s' := 151558) rfl ⟨Nat.le_of_ble_eq_true rfl, Nat.le_of_ble_eq_true rfl⟩ (pc' := 87) rfl ?_
  refine jrun_ok jC X k_MT_init_87 87 _ _ _ o_MT_init_87 ?_
  simp only [k_MT_init_87, jrun, jstep, jldi, jldl, jlda, j1, j2, jl1, jl2, jli, ja1, jbr, jald, jast, jlald, jlast, jalen, jget, jput, jfit, jdup, jdupx, jdupx2, jdup2, jcat, jset1, jset2, jkill, List.getElem?_cons_zero, List.getElem?_cons_succ, List.set_cons_zero, List.set_cons_succ, List.length_cons, List.length_nil, Nat.reduceAdd, Nat.reduceLT, Int32.reduceToNatClampNeg, true_and, and_true, and_self, reduceCtorEq, not_false_eq_true, false_and, and_false, or_false, false_or, true_or, or_true, jmk_a, jmk_put, hak, hak0]
  refine jc_na X hR (w1 := 2162) d_MT_init_93 rfl (by decide +kernel) (by decide) (by decide) 120400 (by decide) (by decide) rfl [.inl (.char, 65536, .inl fun _ => 0), .inl (.char, 80000, .inl fun _ => 0), .inl (.int, 2, .inl fun _ => 0), .inl (.int, 602, .inl fun _ => 0), .inl (.int, 602, .inl fun _ => 0), .inl (.int, 602, .inl fun _ => 0), .inl (.int, 602, .inl fun _ => 0), .inl (.int, 602, .inl fun _ => 0), .inl (.int, 2408, .inl fun _ => 0), .inl (.int, 602, .inl fun _ => 0), .inl (.char, 120400, .inl fun _ => 0)] ha rfl rfl (n' := n + 11) rfl (c' := 11) rfl (s' := 271958) rfl ⟨Nat.le_of_ble_eq_true rfl, Nat.le_of_ble_eq_true rfl⟩ (pc' := 95) rfl ?_
  refine jrun_ok jC X k_MT_init_95 95 _ _ _ o_MT_init_95 ?_
  simp only [k_MT_init_95, jrun, jstep, jldi, jldl, jlda, j1, j2, jl1, jl2, jli, ja1, jbr, jald, jast, jlald, jlast, jalen, jget, jput, jfit, jdup, jdupx, jdupx2, jdup2, jcat, jset1, jset2, jkill, List.getElem?_cons_zero, List.getElem?_cons_succ, List.set_cons_zero, List.set_cons_succ, List.length_cons, List.length_nil, Nat.reduceAdd, Nat.reduceLT, Int32.reduceToNatClampNeg, true_and, and_true, and_self, reduceCtorEq, not_false_eq_true, false_and, and_false, or_false, false_or, true_or, or_true, jmk_a, jmk_put, hak, hak0]
  refine jc_na X hR (w1 := 387) d_MT_init_102 rfl (by decide +kernel) (by decide) (by decide) 128 (by decide) (by decide) rfl [.inl (.char, 65536, .inl fun _ => 0), .inl (.char, 80000, .inl fun _ => 0), .inl (.int, 2, .inl fun _ => 0), .inl (.int, 602, .inl fun _ => 0), .inl (.int, 602, .inl fun _ => 0), .inl (.int, 602, .inl fun _ => 0), .inl (.int, 602, .inl fun _ => 0), .inl (.int, 602, .inl fun _ => 0), .inl (.int, 2408, .inl fun _ => 0), .inl (.int, 602, .inl fun _ => 0), .inl (.char, 120400, .inl fun _ => 0), .inl (.int, 128, .inl fun _ => 0)] ha rfl rfl (n' := n + 12) rfl (c' := 12) rfl (s' := 272086) rfl ⟨Nat.le_of_ble_eq_true rfl, Nat.le_of_ble_eq_true rfl⟩ (pc' := 104) rfl ?_
  refine jrun_ok jC X k_MT_init_104 104 _ _ _ o_MT_init_104 ?_
  simp only [k_MT_init_104, jrun, jstep, jldi, jldl, jlda, j1, j2, jl1, jl2, jli, ja1, jbr, jald, jast, jlald, jlast, jalen, jget, jput, jfit, jdup, jdupx, jdupx2, jdup2, jcat, jset1, jset2, jkill, List.getElem?_cons_zero, List.getElem?_cons_succ, List.set_cons_zero, List.set_cons_succ, List.length_cons, List.length_nil, Nat.reduceAdd, Nat.reduceLT, Int32.reduceToNatClampNeg, true_and, and_true, and_self, reduceCtorEq, not_false_eq_true, false_and, and_false, or_false, false_or, true_or, or_true, jmk_a, jmk_put, hak, hak0]
  refine jc_na X hR (w1 := 387) d_MT_init_110 rfl (by decide +kernel) (by decide) (by decide) 10 (by decide) (by decide) rfl [.inl (.char, 65536, .inl fun _ => 0), .inl (.char, 80000, .inl fun _ => 0), .inl (.int, 2, .inl fun _ => 0), .inl (.int, 602, .inl fun _ => 0), .inl (.int, 602, .inl fun _ => 0), .inl (.int, 602, .inl fun _ => 0), .inl (.int, 602, .inl fun _ => 0), .inl (.int, 602, .inl fun _ => 0), .inl (.int, 2408, .inl fun _ => 0), .inl (.int, 602, .inl fun _ => 0), .inl (.char, 120400, .inl fun _ => 0), .inl (.int, 128, .inl fun _ => 0), .inl (.int, 10, .inl fun _ => 0)] ha rfl rfl (n' := n + 13) rfl (c' := 13) rfl (s' := 272096) rfl ⟨Nat.le_of_ble_eq_true rfl, Nat.le_of_ble_eq_true rfl⟩ (pc' := 112) rfl ?_
  refine jrun_ok jC X k_MT_init_112 112 _ _ _ o_MT_init_112 ?_
  simp only [k_MT_init_112, jrun, jstep, jldi, jldl, jlda, j1, j2, jl1, jl2, jli, ja1, jbr, jald, jast, jlald, jlast, jalen, jget, jput, jfit, jdup, jdupx, jdupx2, jdup2, jcat, jset1, jset2, jkill, List.getElem?_cons_zero, List.getElem?_cons_succ, List.set_cons_zero, List.set_cons_succ, List.length_cons, List.length_nil, Nat.reduceAdd, Nat.reduceLT, Int32.reduceToNatClampNeg, true_and, and_true, and_self, reduceCtorEq, not_false_eq_true, false_and, and_false, or_false, false_or, true_or, or_true, jmk_a, jmk_put, hak, hak0]
  refine jc_na X hR (w1 := 387) d_MT_init_117 rfl (by decide +kernel) (by decide) (by decide) 2 (by decide) (by decide) rfl [.inl (.char, 65536, .inl fun _ => 0), .inl (.char, 80000, .inl fun _ => 0), .inl (.int, 2, .inl fun _ => 0), .inl (.int, 602, .inl fun _ => 0), .inl (.int, 602, .inl fun _ => 0), .inl (.int, 602, .inl fun _ => 0), .inl (.int, 602, .inl fun _ => 0), .inl (.int, 602, .inl fun _ => 0), .inl (.int, 2408, .inl fun _ => 0), .inl (.int, 602, .inl fun _ => 0), .inl (.char, 120400, .inl fun _ => 0), .inl (.int, 128, .inl fun _ => 0), .inl (.int, 10, .inl fun _ => 0), .inl (.int, 2, .inl fun _ => 0)] ha rfl rfl (n' := n + 14) rfl (c' := 14) rfl (s' := 272098) rfl ⟨Nat.le_of_ble_eq_true rfl, Nat.le_of_ble_eq_true rfl⟩ (pc' := 119) rfl ?_
  refine jrun_ok jC X k_MT_init_119 119 _ _ _ o_MT_init_119 ?_
  simp only [k_MT_init_119, jrun, jstep, jldi, jldl, jlda, j1, j2, jl1, jl2, jli, ja1, jbr, jald, jast, jlald, jlast, jalen, jget, jput, jfit, jdup, jdupx, jdupx2, jdup2, jcat, jset1, jset2, jkill, List.getElem?_cons_zero, List.getElem?_cons_succ, List.set_cons_zero, List.set_cons_succ, List.length_cons, List.length_nil, Nat.reduceAdd, Nat.reduceLT, Int32.reduceToNatClampNeg, true_and, and_true, and_self, reduceCtorEq, not_false_eq_true, false_and, and_false, or_false, false_or, true_or, or_true, jmk_a, jmk_put, hak, hak0]
  refine jc_na X hR (w1 := 387) d_MT_init_125 rfl (by decide +kernel) (by decide) (by decide) 16 (by decide) (by decide) rfl [.inl (.char, 65536, .inl fun _ => 0), .inl (.char, 80000, .inl fun _ => 0), .inl (.int, 2, .inl fun _ => 0), .inl (.int, 602, .inl fun _ => 0), .inl (.int, 602, .inl fun _ => 0), .inl (.int, 602, .inl fun _ => 0), .inl (.int, 602, .inl fun _ => 0), .inl (.int, 602, .inl fun _ => 0), .inl (.int, 2408, .inl fun _ => 0), .inl (.int, 602, .inl fun _ => 0), .inl (.char, 120400, .inl fun _ => 0), .inl (.int, 128, .inl fun _ => 0), .inl (.int, 10, .inl fun _ => 0), .inl (.int, 2, .inl fun _ => 0), .inl (.int, 16, .inl fun _ => 0)] ha rfl rfl (n' := n + 15) rfl (c' := 15) rfl (s' := 272114) rfl ⟨Nat.le_of_ble_eq_true rfl, Nat.le_of_ble_eq_true rfl⟩ (pc' := 127) rfl ?_
  refine jrun_ok jC X k_MT_init_127 127 _ _ _ o_MT_init_127 ?_
  simp only [k_MT_init_127, jrun, jstep, jldi, jldl, jlda, j1, j2, jl1, jl2, jli, ja1, jbr, jald, jast, jlald, jlast, jalen, jget, jput, jfit, jdup, jdupx, jdupx2, jdup2, jcat, jset1, jset2, jkill, List.getElem?_cons_zero, List.getElem?_cons_succ, List.set_cons_zero, List.set_cons_succ, List.length_cons, List.length_nil, Nat.reduceAdd, Nat.reduceLT, Int32.reduceToNatClampNeg, true_and, and_true, and_self, reduceCtorEq, not_false_eq_true, false_and, and_false, or_false, false_or, true_or, or_true, jmk_a, jmk_put, hak, hak0]
  refine jc_na X hR (w1 := 2162) d_MT_init_134 rfl (by decide +kernel) (by decide) (by decide) 192 (by decide) (by decide) rfl [.inl (.char, 65536, .inl fun _ => 0), .inl (.char, 80000, .inl fun _ => 0), .inl (.int, 2, .inl fun _ => 0), .inl (.int, 602, .inl fun _ => 0), .inl (.int, 602, .inl fun _ => 0), .inl (.int, 602, .inl fun _ => 0), .inl (.int, 602, .inl fun _ => 0), .inl (.int, 602, .inl fun _ => 0), .inl (.int, 2408, .inl fun _ => 0), .inl (.int, 602, .inl fun _ => 0), .inl (.char, 120400, .inl fun _ => 0), .inl (.int, 128, .inl fun _ => 0), .inl (.int, 10, .inl fun _ => 0), .inl (.int, 2, .inl fun _ => 0), .inl (.int, 16, .inl fun _ => 0), .inl (.char, 192, .inl fun _ => 0)] ha rfl rfl (n' := n + 16) rfl (c' := 16) rfl (s' := 272306) rfl ⟨Nat.le_of_ble_eq_true rfl, Nat.le_of_ble_eq_true rfl⟩ (pc' := 136) rfl ?_
  refine jrun_ok jC X k_MT_init_136 136 _ _ _ o_MT_init_136 ?_
  simp only [k_MT_init_136, jrun, jstep, jldi, jldl, jlda, j1, j2, jl1, jl2, jli, ja1, jbr, jald, jast, jlald, jlast, jalen, jget, jput, jfit, jdup, jdupx, jdupx2, jdup2, jcat, jset1, jset2, jkill, List.getElem?_cons_zero, List.getElem?_cons_succ, List.set_cons_zero, List.set_cons_succ, List.length_cons, List.length_nil, Nat.reduceAdd, Nat.reduceLT, Int32.reduceToNatClampNeg, true_and, and_true, and_self, reduceCtorEq, not_false_eq_true, false_and, and_false, or_false, false_or, true_or, or_true, jmk_a, jmk_put, hak, hak0]
  refine jc_na X hR (w1 := 387) d_MT_init_142 rfl (by decide +kernel) (by decide) (by decide) 16 (by decide) (by decide) rfl [.inl (.char, 65536, .inl fun _ => 0), .inl (.char, 80000, .inl fun _ => 0), .inl (.int, 2, .inl fun _ => 0), .inl (.int, 602, .inl fun _ => 0), .inl (.int, 602, .inl fun _ => 0), .inl (.int, 602, .inl fun _ => 0), .inl (.int, 602, .inl fun _ => 0), .inl (.int, 602, .inl fun _ => 0), .inl (.int, 2408, .inl fun _ => 0), .inl (.int, 602, .inl fun _ => 0), .inl (.char, 120400, .inl fun _ => 0), .inl (.int, 128, .inl fun _ => 0), .inl (.int, 10, .inl fun _ => 0), .inl (.int, 2, .inl fun _ => 0), .inl (.int, 16, .inl fun _ => 0), .inl (.char, 192, .inl fun _ => 0), .inl (.int, 16, .inl fun _ => 0)] ha rfl rfl (n' := n + 17) rfl (c' := 17) rfl (s' := 272322) rfl ⟨Nat.le_of_ble_eq_true rfl, Nat.le_of_ble_eq_true rfl⟩ (pc' := 144) rfl ?_
  refine jrun_ok jC X k_MT_init_144 144 _ _ _ o_MT_init_144 ?_
  simp only [k_MT_init_144, jrun, jstep, jldi, jldl, jlda, j1, j2, jl1, jl2, jli, ja1, jbr, jald, jast, jlald, jlast, jalen, jget, jput, jfit, jdup, jdupx, jdupx2, jdup2, jcat, jset1, jset2, jkill, List.getElem?_cons_zero, List.getElem?_cons_succ, List.set_cons_zero, List.set_cons_succ, List.length_cons, List.length_nil, Nat.reduceAdd, Nat.reduceLT, Int32.reduceToNatClampNeg, true_and, and_true, and_self, reduceCtorEq, not_false_eq_true, false_and, and_false, or_false, false_or, true_or, or_true, jmk_a, jmk_put, hak, hak0]
  refine jc_na X hR (w1 := 2162) d_MT_init_151 rfl (by decide +kernel) (by decide) (by decide) 1536 (by decide) (by decide) rfl [.inl (.char, 65536, .inl fun _ => 0), .inl (.char, 80000, .inl fun _ => 0), .inl (.int, 2, .inl fun _ => 0), .inl (.int, 602, .inl fun _ => 0), .inl (.int, 602, .inl fun _ => 0), .inl (.int, 602, .inl fun _ => 0), .inl (.int, 602, .inl fun _ => 0), .inl (.int, 602, .inl fun _ => 0), .inl (.int, 2408, .inl fun _ => 0), .inl (.int, 602, .inl fun _ => 0), .inl (.char, 120400, .inl fun _ => 0), .inl (.int, 128, .inl fun _ => 0), .inl (.int, 10, .inl fun _ => 0), .inl (.int, 2, .inl fun _ => 0), .inl (.int, 16, .inl fun _ => 0), .inl (.char, 192, .inl fun _ => 0), .inl (.int, 16, .inl fun _ => 0), .inl (.char, 1536, .inl fun _ => 0)] ha rfl rfl (n' := n + 18) rfl (c' := 18) rfl (s' := 273858) rfl ⟨Nat.le_of_ble_eq_true rfl, Nat.le_of_ble_eq_true rfl⟩ (pc' := 153) rfl ?_
  refine jrun_ok jC X k_MT_init_153 153 _ _ _ o_MT_init_153 ?_
  simp only [k_MT_init_153, jrun, jstep, jldi, jldl, jlda, j1, j2, jl1, jl2, jli, ja1, jbr, jald, jast, jlald, jlast, jalen, jget, jput, jfit, jdup, jdupx, jdupx2, jdup2, jcat, jset1, jset2, jkill, List.getElem?_cons_zero, List.getElem?_cons_succ, List.set_cons_zero, List.set_cons_succ, List.length_cons, List.length_nil, Nat.reduceAdd, Nat.reduceLT, Int32.reduceToNatClampNeg, true_and, and_true, and_self, reduceCtorEq, not_false_eq_true, false_and, and_false, or_false, false_or, true_or, or_true, jmk_a, jmk_put, hak, hak0]
  refine jc_na X hR (w1 := 387) d_MT_init_158 rfl (by decide +kernel) (by decide) (by decide) 2 (by decide) (by decide) rfl [.inl (.char, 65536, .inl fun _ => 0), .inl (.char, 80000, .inl fun _ => 0), .inl (.int, 2, .inl fun _ => 0), .inl (.int, 602, .inl fun _ => 0), .inl (.int, 602, .inl fun _ => 0), .inl (.int, 602, .inl fun _ => 0), .inl (.int, 602, .inl fun _ => 0), .inl (.int, 602, .inl fun _ => 0), .inl (.int, 2408, .inl fun _ => 0), .inl (.int, 602, .inl fun _ => 0), .inl (.char, 120400, .inl fun _ => 0), .inl (.int, 128, .inl fun _ => 0), .inl (.int, 10, .inl fun _ => 0), .inl (.int, 2, .inl fun _ => 0), .inl (.int, 16, .inl fun _ => 0), .inl (.char, 192, .inl fun _ => 0), .inl (.int, 16, .inl fun _ => 0), .inl (.char, 1536, .inl fun _ => 0), .inl (.int, 2, .inl fun _ => 0)] ha rfl rfl (n' := n + 19) rfl (c' := 19) rfl (s' := 273860) rfl ⟨Nat.le_of_ble_eq_true rfl, Nat.le_of_ble_eq_true rfl⟩ (pc' := 160) rfl ?_
  refine jrun_ok jC X k_MT_init_160 160 _ _ _ o_MT_init_160 ?_
  simp only [k_MT_init_160, jrun, jstep, jldi, jldl, jlda, j1, j2, jl1, jl2, jli, ja1, jbr, jald, jast, jlald, jlast, jalen, jget, jput, jfit, jdup, jdupx, jdupx2, jdup2, jcat, jset1, jset2, jkill, List.getElem?_cons_zero, List.getElem?_cons_succ, List.set_cons_zero, List.set_cons_succ, List.length_cons, List.length_nil, Nat.reduceAdd, Nat.reduceLT, Int32.reduceToNatClampNeg, true_and, and_true, and_self, reduceCtorEq, not_false_eq_true, false_and, and_false, or_false, false_or, true_or, or_true, jmk_a, jmk_put, hak, hak0]
  refine jc_na X hR (w1 := 387) d_MT_init_166 rfl (by decide +kernel) (by decide) (by decide) 64 (by decide) (by decide) rfl [.inl (.char, 65536, .inl fun _ => 0), .inl (.char, 80000, .inl fun _ => 0), .inl (.int, 2, .inl fun _ => 0), .inl (.int, 602, .inl fun _ => 0), .inl (.int, 602, .inl fun _ => 0), .inl (.int, 602, .inl fun _ => 0), .inl (.int, 602, .inl fun _ => 0), .inl (.int, 602, .inl fun _ => 0), .inl (.int, 2408, .inl fun _ => 0), .inl (.int, 602, .inl fun _ => 0), .inl (.char, 120400, .inl fun _ => 0), .inl (.int, 128, .inl fun _ => 0), .inl (.int, 10, .inl fun _ => 0), .inl (.int, 2, .inl fun _ => 0), .inl (.int, 16, .inl fun _ => 0), .inl (.char, 192, .inl fun _ => 0), .inl (.int, 16, .inl fun _ => 0), .inl (.char, 1536, .inl fun _ => 0), .inl (.int, 2, .inl fun _ => 0), .inl (.int, 64, .inl fun _ => 0)] ha rfl rfl (n' := n + 20) rfl (c' := 20) rfl (s' := 273924) rfl ⟨Nat.le_of_ble_eq_true rfl, Nat.le_of_ble_eq_true rfl⟩ (pc' := 168) rfl ?_
  refine jrun_ok jC X k_MT_init_168 168 _ _ _ o_MT_init_168 ?_
  simp only [k_MT_init_168, jrun, jstep, jldi, jldl, jlda, j1, j2, jl1, jl2, jli, ja1, jbr, jald, jast, jlald, jlast, jalen, jget, jput, jfit, jdup, jdupx, jdupx2, jdup2, jcat, jset1, jset2, jkill, List.getElem?_cons_zero, List.getElem?_cons_succ, List.set_cons_zero, List.set_cons_succ, List.length_cons, List.length_nil, Nat.reduceAdd, Nat.reduceLT, Int32.reduceToNatClampNeg, true_and, and_true, and_self, reduceCtorEq, not_false_eq_true, false_and, and_false, or_false, false_or, true_or, or_true, jmk_a, jmk_put, hak, hak0]
  refine jc_na X hR (w1 := 387) d_MT_init_174 rfl (by decide +kernel) (by decide) (by decide) 64 (by decide) (by decide) rfl [.inl (.char, 65536, .inl fun _ => 0), .inl (.char, 80000, .inl fun _ => 0), .inl (.int, 2, .inl fun _ => 0), .inl (.int, 602, .inl fun _ => 0), .inl (.int, 602, .inl fun _ => 0), .inl (.int, 602, .inl fun _ => 0), .inl (.int, 602, .inl fun _ => 0), .inl (.int, 602, .inl fun _ => 0), .inl (.int, 2408, .inl fun _ => 0), .inl (.int, 602, .inl fun _ => 0), .inl (.char, 120400, .inl fun _ => 0), .inl (.int, 128, .inl fun _ => 0), .inl (.int, 10, .inl fun _ => 0), .inl (.int, 2, .inl fun _ => 0), .inl (.int, 16, .inl fun _ => 0), .inl (.char, 192, .inl fun _ => 0), .inl (.int, 16, .inl fun _ => 0), .inl (.char, 1536, .inl fun _ => 0), .inl (.int, 2, .inl fun _ => 0), .inl (.int, 64, .inl fun _ => 0), .inl (.int, 64, .inl fun _ => 0)] ha rfl rfl (n' := n + 21) rfl (c' := 21) rfl (s' := 273988) rfl ⟨Nat.le_of_ble_eq_true rfl, Nat.le_of_ble_eq_true rfl⟩ (pc' := 176) rfl ?_
  refine jrun_ok jC X k_MT_init_176 176 _ _ _ o_MT_init_176 ?_
  simp only [k_MT_init_176, jrun, jstep, jldi, jldl, jlda, j1, j2, jl1, jl2, jli, ja1, jbr, jald, jast, jlald, jlast, jalen, jget, jput, jfit, jdup, jdupx, jdupx2, jdup2, jcat, jset1, jset2, jkill, List.getElem?_cons_zero, List.getElem?_cons_succ, List.set_cons_zero, List.set_cons_succ, List.length_cons, List.length_nil, Nat.reduceAdd, Nat.reduceLT, Int32.reduceToNatClampNeg, true_and, and_true, and_self, reduceCtorEq, not_false_eq_true, false_and, and_false, or_false, false_or, true_or, or_true, jmk_a, jmk_put, hak, hak0]
  refine jc_na X hR (w1 := 387) d_MT_init_181 rfl (by decide +kernel) (by decide) (by decide) 5 (by decide) (by decide) rfl [.inl (.char, 65536, .inl fun _ => 0), .inl (.char, 80000, .inl fun _ => 0), .inl (.int, 2, .inl fun _ => 0), .inl (.int, 602, .inl fun _ => 0), .inl (.int, 602, .inl fun _ => 0), .inl (.int, 602, .inl fun _ => 0), .inl (.int, 602, .inl fun _ => 0), .inl (.int, 602, .inl fun _ => 0), .inl (.int, 2408, .inl fun _ => 0), .inl (.int, 602, .inl fun _ => 0), .inl (.char, 120400, .inl fun _ => 0), .inl (.int, 128, .inl fun _ => 0), .inl (.int, 10, .inl fun _ => 0), .inl (.int, 2, .inl fun _ => 0), .inl (.int, 16, .inl fun _ => 0), .inl (.char, 192, .inl fun _ => 0), .inl (.int, 16, .inl fun _ => 0), .inl (.char, 1536, .inl fun _ => 0), .inl (.int, 2, .inl fun _ => 0), .inl (.int, 64, .inl fun _ => 0), .inl (.int, 64, .inl fun _ => 0), .inl (.int, 5, .inl fun _ => 0)] ha rfl rfl (n' := n + 22) rfl (c' := 22) rfl (s' := 273993) rfl ⟨Nat.le_of_ble_eq_true rfl, Nat.le_of_ble_eq_true rfl⟩ (pc' := 183) rfl ?_
  refine jrun_ok jC X k_MT_init_183 183 _ _ _ o_MT_init_183 ?_
  simp only [k_MT_init_183, jrun, jstep, jldi, jldl, jlda, j1, j2, jl1, jl2, jli, ja1, jbr, jald, jast, jlald, jlast, jalen, jget, jput, jfit, jdup, jdupx, jdupx2, jdup2, jcat, jset1, jset2, jkill, List.getElem?_cons_zero, List.getElem?_cons_succ, List.set_cons_zero, List.set_cons_succ, List.length_cons, List.length_nil, Nat.reduceAdd, Nat.reduceLT, Int32.reduceToNatClampNeg, true_and, and_true, and_self, reduceCtorEq, not_false_eq_true, false_and, and_false, or_false, false_or, true_or, or_true, jmk_a, jmk_put, hak, hak0]
  refine jc_na X hR (w1 := 387) d_MT_init_190 rfl (by decide +kernel) (by decide) (by decide) 2048 (by decide) (by decide) rfl [.inl (.char, 65536, .inl fun _ => 0), .inl (.char, 80000, .inl fun _ => 0), .inl (.int, 2, .inl fun _ => 0), .inl (.int, 602, .inl fun _ => 0), .inl (.int, 602, .inl fun _ => 0), .inl (.int, 602, .inl fun _ => 0), .inl (.int, 602, .inl fun _ => 0), .inl (.int, 602, .inl fun _ => 0), .inl (.int, 2408, .inl fun _ => 0), .inl (.int, 602, .inl fun _ => 0), .inl (.char, 120400, .inl fun _ => 0), .inl (.int, 128, .inl fun _ => 0), .inl (.int, 10, .inl fun _ => 0), .inl (.int, 2, .inl fun _ => 0), .inl (.int, 16, .inl fun _ => 0), .inl (.char, 192, .inl fun _ => 0), .inl (.int, 16, .inl fun _ => 0), .inl (.char, 1536, .inl fun _ => 0), .inl (.int, 2, .inl fun _ => 0), .inl (.int, 64, .inl fun _ => 0), .inl (.int, 64, .inl fun _ => 0), .inl (.int, 5, .inl fun _ => 0), .inl (.int, 2048, .inl fun _ => 0)] ha rfl rfl (n' := n + 23) rfl (c' := 23) rfl (s' := 276041) rfl ⟨Nat.le_of_ble_eq_true rfl, Nat.le_of_ble_eq_true rfl⟩ (pc' := 192) rfl ?_
  refine jrun_ok jC X k_MT_init_192 192 _ _ _ o_MT_init_192 ?_
  simp only [k_MT_init_192, jrun, jstep, jldi, jldl, jlda, j1, j2, jl1, jl2, jli, ja1, jbr, jald, jast, jlald, jlast, jalen, jget, jput, jfit, jdup, jdupx, jdupx2, jdup2, jcat, jset1, jset2, jkill, List.getElem?_cons_zero, List.getElem?_cons_succ, List.set_cons_zero, List.set_cons_succ, List.length_cons, List.length_nil, Nat.reduceAdd, Nat.reduceLT, Int32.reduceToNatClampNeg, true_and, and_true, and_self, reduceCtorEq, not_false_eq_true, false_and, and_false, or_false, false_or, true_or, or_true, jmk_a, jmk_put, hak, hak0]
  refine jc_na X hR (w1 := 387) d_MT_init_199 rfl (by decide +kernel) (by decide) (by decide) 301 (by decide) (by decide) rfl [.inl (.char, 65536, .inl fun _ => 0), .inl (.char, 80000, .inl fun _ => 0), .inl (.int, 2, .inl fun _ => 0), .inl (.int, 602, .inl fun _ => 0), .inl (.int, 602, .inl fun _ => 0), .inl (.int, 602, .inl fun _ => 0), .inl (.int, 602, .inl fun _ => 0), .inl (.int, 602, .inl fun _ => 0), .inl (.int, 2408, .inl fun _ => 0), .inl (.int, 602, .inl fun _ => 0), .inl (.char, 120400, .inl fun _ => 0), .inl (.int, 128, .inl fun _ => 0), .inl (.int, 10, .inl fun _ => 0), .inl (.int, 2, .inl fun _ => 0), .inl (.int, 16, .inl fun _ => 0), .inl (.char, 192, .inl fun _ => 0), .inl (.int, 16, .inl fun _ => 0), .inl (.char, 1536, .inl fun _ => 0), .inl (.int, 2, .inl fun _ => 0), .inl (.int, 64, .inl fun _ => 0), .inl (.int, 64, .inl fun _ => 0), .inl (.int, 5, .inl fun _ => 0), .inl (.int, 2048, .inl fun _ => 0), .inl (.int, 301, .inl fun _ => 0)] ha rfl rfl (n' := n + 24) rfl (c' := 24) rfl (s' := 276342) rfl ⟨Nat.le_of_ble_eq_true rfl, Nat.le_of_ble_eq_true rfl⟩ (pc' := 201) rfl ?_
  refine jrun_ok jC X k_MT_init_201 201 _ _ _ o_MT_init_201 ?_
  simp only [k_MT_init_201, jrun, jstep, jldi, jldl, jlda, j1, j2, jl1, jl2, jli, ja1, jbr, jald, jast, jlald, jlast, jalen, jget, jput, jfit, jdup, jdupx, jdupx2, jdup2, jcat, jset1, jset2, jkill, List.getElem?_cons_zero, List.getElem?_cons_succ, List.set_cons_zero, List.set_cons_succ, List.length_cons, List.length_nil, Nat.reduceAdd, Nat.reduceLT, Int32.reduceToNatClampNeg, true_and, and_true, and_self, reduceCtorEq, not_false_eq_true, false_and, and_false, or_false, false_or, true_or, or_true, jmk_a, jmk_put, hak, hak0]
  refine jc_na X hR (w1 := 2162) d_MT_init_207 rfl (by decide +kernel) (by decide) (by decide) 16 (by decide) (by decide) rfl [.inl (.char, 65536, .inl fun _ => 0), .inl (.char, 80000, .inl fun _ => 0), .inl (.int, 2, .inl fun _ => 0), .inl (.int, 602, .inl fun _ => 0), .inl (.int, 602, .inl fun _ => 0), .inl (.int, 602, .inl fun _ => 0), .inl (.int, 602, .inl fun _ => 0), .inl (.int, 602, .inl fun _ => 0), .inl (.int, 2408, .inl fun _ => 0), .inl (.int, 602, .inl fun _ => 0), .inl (.char, 120400, .inl fun _ => 0), .inl (.int, 128, .inl fun _ => 0), .inl (.int, 10, .inl fun _ => 0), .inl (.int, 2, .inl fun _ => 0), .inl (.int, 16, .inl fun _ => 0), .inl (.char, 192, .inl fun _ => 0), .inl (.int, 16, .inl fun _ => 0), .inl (.char, 1536, .inl fun _ => 0), .inl (.int, 2, .inl fun _ => 0), .inl (.int, 64, .inl fun _ => 0), .inl (.int, 64, .inl fun _ => 0), .inl (.int, 5, .inl fun _ => 0), .inl (.int, 2048, .inl fun _ => 0), .inl (.int, 301, .inl fun _ => 0), .inl (.char, 16, .inl fun _ => 0)] ha rfl rfl (n' := n + 25) rfl (c' := 25) rfl (s' := 276358) rfl ⟨Nat.le_of_ble_eq_true rfl, Nat.le_of_ble_eq_true rfl⟩ (pc' := 209) rfl ?_
  refine jrun_ok jC X k_MT_init_209 209 _ _ _ o_MT_init_209 ?_
  simp only [k_MT_init_209, jrun, jstep, jldi, jldl, jlda, j1, j2, jl1, jl2, jli, ja1, jbr, jald, jast, jlald, jlast, jalen, jget, jput, jfit, jdup, jdupx, jdupx2, jdup2, jcat, jset1, jset2, jkill, List.getElem?_cons_zero, List.getElem?_cons_succ, List.set_cons_zero, List.set_cons_succ, List.length_cons, List.length_nil, Nat.reduceAdd, Nat.reduceLT, Int32.reduceToNatClampNeg, true_and, and_true, and_self, reduceCtorEq, not_false_eq_true, false_and, and_false, or_false, false_or, true_or, or_true, jmk_a, jmk_put, hak, hak0]
  show jJ E jcl 1 M _ (n + 25) 25 (276358) 214 [some (.inr (.inr (some (.inl (a)))))] [.inl 0, .inr (.inr (some (.inl (a))))] (jmk σ a n (.inr (12, [.inl 0, .inl 0, .inr (.inr (some (.inl n))), .inl 0, .inr (.inr (some (.inl (n + 1)))), .inl 0, .inl 0, .inr (.inr (some (.inl (n + 2)))), .inr (.inr (some (.inl (n + 3)))), .inr (.inr (some (.inl (n + 4)))), .inr (.inr (some (.inl (n + 5)))), .inr (.inr (some (.inl (n + 6)))), .inr (.inr (some (.inl (n + 7)))), .inr (.inr (some (.inl (n + 8)))), .inr (.inr (some (.inl (n + 9)))), .inr (.inr (some (.inl (n + 10)))), .inr (.inr (some (.inl (n + 11)))), .inr (.inr (some (.inl (n + 12)))), .inr (.inr (some (.inl (n + 13)))), .inr (.inr (some (.inl (n + 14)))), .inr (.inr (some (.inl (n + 15)))), .inr (.inr (some (.inl (n + 16)))), .inr (.inr (some (.inl (n + 17)))), .inr (.inr (some (.inl (n + 18)))), .inr (.inr (some (.inl (n + 19)))), .inl 0, .inl 0, .inl 0, .inl 0, .inl 0, .inr (.inr (some (.inl (n + 20)))), .inr (.inr (some (.inl (n + 21)))), .inr (.inr (some (.inl (n + 22)))), .inl 0, .inr (.inr (some (.inl (n + 23)))), .inr (.inr (some (.inl (n + 24)))), .inl 0, .inl 0, .inl 0, .inl 0])) [.inl (.char, 65536, .inl fun _ => 0), .inl (.char, 80000, .inl fun _ => 0), .inl (.int, 2, .inl fun _ => 0), .inl (.int, 602, .inl fun _ => 0), .inl (.int, 602, .inl fun _ => 0), .inl (.int, 602, .inl fun _ => 0), .inl (.int, 602, .inl fun _ => 0), .inl (.int, 602, .inl fun _ => 0), .inl (.int, 2408, .inl fun _ => 0), .inl (.int, 602, .inl fun _ => 0), .inl (.char, 120400, .inl fun _ => 0), .inl (.int, 128, .inl fun _ => 0), .inl (.int, 10, .inl fun _ => 0), .inl (.int, 2, .inl fun _ => 0), .inl (.int, 16, .inl fun _ => 0), .inl (.char, 192, .inl fun _ => 0), .inl (.int, 16, .inl fun _ => 0), .inl (.char, 1536, .inl fun _ => 0), .inl (.int, 2, .inl fun _ => 0), .inl (.int, 64, .inl fun _ => 0), .inl (.int, 64, .inl fun _ => 0), .inl (.int, 5, .inl fun _ => 0), .inl (.int, 2048, .inl fun _ => 0), .inl (.int, 301, .inl fun _ => 0), .inl (.char, 16, .inl fun _ => 0)])
  refine jJ_congr (σ2 := txA σ a n (fun _ => 0) (fun _ _ => 0)) (fun k hk => tx_jmk (F := fun _ => 0) (A := fun _ _ => 0) ha (by rfl) (by rfl) k hk) ?_
  refine h0 _ { frames := 7, cells := 25, slots := 276358, locals := 310 } ⟨Nat.le_of_ble_eq_true rfl, Nat.le_of_ble_eq_true rfl⟩ n zP0 [.inr (.inr (some (.inl (a))))] (zWT σ a n) rfl ?_ M hl hR hsz X0 hr (zKT a n) (n + 25) (txA σ a n (fun _ => 0) (fun _ _ => 0)) 25 276358 ⟨rfl, rfl, rfl, fun _ _ => rfl⟩ zi_214 (List.mem_of_getElem? (i := 0) rfl) [rR a, .inl 0, .inl 0, .inl 0] _ _ _ (fun i v hv => ?_) ?_
  · intro K1 n1 σ0 ca sl hw
    obtain ⟨w1, w2, w3, w4⟩ := hw
    dsimp only at w1 w2 w3 w4
    subst w1
    subst w2
    obtain ⟨rfl, rfl⟩ : ca = 25 ∧ sl = 276358 := ⟨congrArg Prod.fst w3, congrArg Prod.snd w3⟩
    refine ⟨⟨Nat.le_refl _, Nat.le_refl _⟩, fun r σ' hp => ?_⟩
    obtain ⟨-, p1, -, p3, p4, p5, xs, -, ⟨-, -, -, m4⟩, -⟩ := hp
    obtain rfl : r = none := by
      cases r with
      | none => rfl
      | some v => cases p5
    obtain ⟨w, e6, e7⟩ := m4 (5873, [0]) (List.mem_of_getElem? (i := 0) rfl)
    obtain rfl : [rR a] = w := Option.some.inj e6
    have hg := (rF_b (r := 5873) (by decide) rfl).mp e7
    have hdd : ∀ p, p < n → p ≠ a → σ' p = σ p := fun p hp hne => by
      have e0 : σ0 p = σ p := by
        rw [w4 p (by omega)]
        unfold txA
        rw [if_neg hne, if_neg (by omega)]
      rw [← e0]
      exact zPl_eq p3 p4 (by omega) (by rw [e0]; exact hpl p hp) (hmd p hp hne).1 (hmd p hp hne).2
    obtain ⟨F, A, hFA⟩ := zT_pic (σ := σ) ha p1 hdd
    refine ⟨F, A, rfl, rfl, hFA, fun σ2 => zT_cg ha (σ := σ') ⟨p1, hg⟩ (fun p hp hq => ?_)⟩
    rw [hFA p hp]
    unfold txA
    rcases hq with rfl | hq
    · rw [if_pos rfl, if_pos rfl]
    · have e1 : ¬ p = a := by omega
      rw [if_neg e1, if_neg e1, if_pos (And.intro hq hp), if_pos (And.intro hq hp)]
  · match i, hv with
    | 0, hv => exact hv
    | i + 1, hv => cases hv
  · refine ⟨⟨rfl, fun i e v he hv => ?_⟩, ⟨rfl, fun i k hk => ?_⟩, ⟨rfl, rfl, trivial⟩, ⟨zP0, ?_, fun q hq => (by cases hq), fun q hq => (by cases hq), aAllc ⟨[], rfl, rfl⟩ (fun f hf => by cases hf)⟩, zT_H ha, trivial, aFr_rf, aFa_rf⟩
    · match i, he, hv with
      | 0, he, hv => cases he; cases hv; exact ⟨⟨by omega, Or.inl zKT_a⟩, trivial⟩
      | 1, he, hv => cases he; cases hv; exact ⟨⟨by decide, by decide⟩, trivial⟩
      | 2, he, hv => cases he; cases hv; exact ⟨⟨by decide, by decide⟩, trivial⟩
      | 3, he, hv => cases he; cases hv; exact ⟨⟨by decide, by decide⟩, trivial⟩
      | i + 4, he, _ => cases he
    · match i, hk with
      | 0, hk => cases hk; exact ⟨_, rfl, rfl⟩
      | i + 1, hk => cases hk
    · exact aAllc ⟨a, 12, _, .inl 0, rfl, ta_a, ta_f5, rfl⟩ (aAllc ⟨a, 12, _, .inl 0, rfl, ta_a, ta_f6, rfl⟩ (fun f hf => by cases hf))
end
section
noncomputable def zPb (c : jcell) : Bool := match c with
  | .inr _ => true
  | .inl (_, _, .inl _) => true
  | .inl (_, _, .inr (.inl _)) => true
  | _ => false
theorem zPb_ok {c : jcell} (h : zPb c = true) : zPl c := by
  rcases c with ⟨t, m, g | g | g⟩ | y
  · trivial
  · trivial
  · cases h
  · trivial
theorem zPl_all {cs : List jcell} (h : cs.all zPb = true) : ∀ c ∈ cs, zPl c := fun c hc => zPb_ok (List.all_eq_true.mp h c hc)
set_option maxRecDepth 100000 in
set_option maxHeartbeats 4000000 in
theorem cz_MM_init (l : Launch) (E : jE) (σ : Nat → jcell) (n : Nat) (a : Nat) (ha : a < n) (h : σ a = .inr (11, [.inl 0, .inl 0, .inr (.inr none), .inl 0, .inr (.inr none), .inr (.inr none), .inr (.inr none), .inr (.inr none), .inl 0, .inl 0, .inl 0, .inl 0, .inl 0, .inl 0, .inr (.inr none), .inr (.inr none), .inl 0, .inr (.inr none), .inr (.inr none)])) (hpl : ∀ p, p < n → zPl (σ p)) : jMet l E jcl jtb lw_tbl y_MM_init { frames := 8, cells := 53, slots := 582705, locals := 330 } [.inr (.inr (some (.inl (a))))] σ n (fun r σ' n' => ∃ (F : Nat → Int32) (A : Nat → Nat → Int32), r = none ∧ n' = n + 53 ∧ σ' = jmk σ a n (.inr (11, [.inl 0, .inl 0, .inr (.inr (some (.inl n))), .inl 0, .inr (.inr (some (.inl (n + 1)))), .inr (.inr (some (.inl (n + 2)))), .inr (.inr (some (.inl (n + 28)))), .inr (.inr none), .inl 0, .inl 0, .inl 0, .inl 0, .inl 0, .inl 0, .inr (.inr (some (.inl (n + 49)))), .inr (.inr (some (.inl (n + 50)))), .inl 0, .inr (.inr (some (.inl (n + 51)))), .inr (.inr (some (.inl (n + 52))))])) [.inl (.byte, 65536, .inl fun _ => 0), .inl (.byte, 65536, .inl fun _ => 0), .inr (12, [.inl (F 0), .inl (F 1), .inr (.inr (some (.inl (n + 3)))), .inl (F 3), .inr (.inr (some (.inl (n + 4)))), .inl (F 5), .inl (F 6), .inr (.inr (some (.inl (n + 5)))), .inr (.inr (some (.inl (n + 6)))), .inr (.inr (some (.inl (n + 7)))), .inr (.inr (some (.inl (n + 8)))), .inr (.inr (some (.inl (n + 9)))), .inr (.inr (some (.inl (n + 10)))), .inr (.inr (some (.inl (n + 11)))), .inr (.inr (some (.inl (n + 12)))), .inr (.inr (some (.inl (n + 13)))), .inr (.inr (some (.inl (n + 14)))), .inr (.inr (some (.inl (n + 15)))), .inr (.inr (some (.inl (n + 16)))), .inr (.inr (some (.inl (n + 17)))), .inr (.inr (some (.inl (n + 18)))), .inr (.inr (some (.inl (n + 19)))), .inr (.inr (some (.inl (n + 20)))), .inr (.inr (some (.inl (n + 21)))), .inr (.inr (some (.inl (n + 22)))), .inl (F 25), .inl (F 26), .inl (F 27), .inl (F 28), .inl (F 29), .inr (.inr (some (.inl (n + 23)))), .inr (.inr (some (.inl (n + 24)))), .inr (.inr (some (.inl (n + 25)))), .inl (F 33), .inr (.inr (some (.inl (n + 26)))), .inr (.inr (some (.inl (n + 27)))), .inl (F 36), .inl (F 37), .inl (F 38), .inl (F 39)]), .inl (.char, 65536, .inl (A 0)), .inl (.char, 80000, .inl (A 1)), .inl (.int, 2, .inl (A 2)), .inl (.int, 602, .inl (A 3)), .inl (.int, 602, .inl (A 4)), .inl (.int, 602, .inl (A 5)), .inl (.int, 602, .inl (A 6)), .inl (.int, 602, .inl (A 7)), .inl (.int, 2408, .inl (A 8)), .inl (.int, 602, .inl (A 9)), .inl (.char, 120400, .inl (A 10)), .inl (.int, 128, .inl (A 11)), .inl (.int, 10, .inl (A 12)), .inl (.int, 2, .inl (A 13)), .inl (.int, 16, .inl (A 14)), .inl (.char, 192, .inl (A 15)), .inl (.int, 16, .inl (A 16)), .inl (.char, 1536, .inl (A 17)), .inl (.int, 2, .inl (A 18)), .inl (.int, 64, .inl (A 19)), .inl (.int, 64, .inl (A 20)), .inl (.int, 5, .inl (A 21)), .inl (.int, 2048, .inl (A 22)), .inl (.int, 301, .inl (A 23)), .inl (.char, 16, .inl (A 24)), .inr (13, [.inl 0, .inr (.inr (some (.inl (n + 29)))), .inr (.inr (some (.inl (n + 30)))), .inl 0, .inl 0, .inl (-1), .inl 0, .inl 0, .inl 0, .inr (.inr (some (.inl (n + 31)))), .inr (.inr (some (.inl (n + 32)))), .inr (.inr (some (.inl (n + 33)))), .inr (.inr (some (.inl (n + 34)))), .inr (.inr (some (.inl (n + 35)))), .inr (.inr (some (.inl (n + 36)))), .inr (.inr (some (.inl (n + 37)))), .inr (.inr (some (.inl (n + 38)))), .inr (.inr (some (.inl (n + 39)))), .inr (.inr (some (.inl (n + 40)))), .inr (.inr (some (.inl (n + 41)))), .inr (.inr (some (.inl (n + 42)))), .inr (.inr (some (.inl (n + 43)))), .inr (.inr (some (.inl (n + 44)))), .inl 0, .inl 0, .inl 0, .inl 0, .inl 0, .inr (.inr (some (.inl (n + 45)))), .inl 0, .inr (.inr (some (.inl (n + 46)))), .inl 0, .inl 0, .inr (.inr (some (.inl (n + 47)))), .inr (.inr (some (.inl (n + 48)))), .inr (.inr none), .inl 0]), .inl (.char, 65536, .inl fun _ => 0), .inl (.int, 64, .inl fun _ => 0), .inl (.int, 19520, .inl fun _ => 0), .inl (.int, 305, .inl fun _ => 0), .inl (.int, 305, .inl fun _ => 0), .inl (.int, 305, .inl fun _ => 0), .inl (.int, 305, .inl fun _ => 0), .inl (.int, 305, .inl fun _ => 0), .inl (.int, 11, .inl fun _ => 0), .inl (.int, 11, .inl fun _ => 0), .inl (.int, 11, .inl fun _ => 0), .inl (.int, 11, .inl fun _ => 0), .inl (.int, 11, .inl fun _ => 0), .inl (.int, 11, .inl fun _ => 0), .inl (.int, 20480, .inl fun _ => 0), .inl (.int, 10, .inl fun _ => 0), .inl (.int, 4, .inl fun _ => 0), .inl (.int, 2048, .inl fun _ => 0), .inl (.int, 4, .inl fun _ => 0), .inl (.int, 4, .inl fun _ => 0), .inl (.int, 32768, .inl fun _ => 0), .inl (.int, 32768, .inl fun _ => 0), .inl (.int, 301, .inl fun _ => 0), .inl (.char, 100, .inl fun _ => 0)] ∧ zFA (n + 2) (n + 3) F A) := by
  refine jMet_of (hY := rfl) true (fun h => rfl) (by decide) (Nat.le_of_ble_eq_true rfl) [some (.inr (.inr (some (.inl (a)))))] rfl ?_
  intro M hl hR X hr
  have hak : ∀ k, (a < n + k) = True := fun k => eq_true (by omega)
  have hak0 : (a < n) = True := eq_true ha
  refine jmk_in h ?_
  refine jrun_ok jC X k_MM_init_0 0 _ _ _ o_MM_init_0 ?_
  simp only [k_MM_init_0, jrun, jstep, jldi, jldl, jlda, j1, j2, jl1, jl2, jli, ja1, jbr, jald, jast, jlald, jlast, jalen, jget, jput, jfit, jdup, jdupx, jdupx2, jdup2, jcat, jset1, jset2, jkill, List.getElem?_cons_zero, List.getElem?_cons_succ, List.set_cons_zero, List.set_cons_succ, List.length_cons, List.length_nil, Nat.reduceAdd, Nat.reduceLT, Int32.reduceToNatClampNeg, true_and, and_true, and_self, reduceCtorEq, not_false_eq_true, false_and, and_false, or_false, false_or, true_or, or_true, jmk_a, jmk_put, hak, hak0]
  refine jk_oi X hR (w1 := 1906) (w2 := 340) (w3 := 341) d_MM_init_1 (by decide +kernel) (by decide +kernel) (by decide +kernel) (Nat.le_of_ble_eq_true rfl) (Nat.le_of_ble_eq_true rfl) (pc' := 4) rfl ?_
  refine jrun_ok jC X k_MM_init_4 4 _ _ _ o_MM_init_4 ?_
  simp only [k_MM_init_4, jrun, jstep, jldi, jldl, jlda, j1, j2, jl1, jl2, jli, ja1, jbr, jald, jast, jlald, jlast, jalen, jget, jput, jfit, jdup, jdupx, jdupx2, jdup2, jcat, jset1, jset2, jkill, List.getElem?_cons_zero, List.getElem?_cons_succ, List.set_cons_zero, List.set_cons_succ, List.length_cons, List.length_nil, Nat.reduceAdd, Nat.reduceLT, Int32.reduceToNatClampNeg, true_and, and_true, and_self, reduceCtorEq, not_false_eq_true, false_and, and_false, or_false, false_or, true_or, or_true, jmk_a, jmk_put, hak, hak0]
  refine jc_na X hR (w1 := 361) d_MM_init_7 rfl (by decide +kernel) (by decide) (by decide) 65536 (by decide) (by decide) rfl [.inl (.byte, 65536, .inl fun _ => 0)] ha rfl rfl (n' := n + 1) rfl (c' := 1) rfl (s' := 65536) rfl ⟨Nat.le_of_ble_eq_true rfl, Nat.le_of_ble_eq_true rfl⟩ (pc' := 9) rfl ?_
  refine jrun_ok jC X k_MM_init_9 9 _ _ _ o_MM_init_9 ?_
  simp only [k_MM_init_9, jrun, jstep, jldi, jldl, jlda, j1, j2, jl1, jl2, jli, ja1, jbr, jald, jast, jlald, jlast, jalen, jget, jput, jfit, jdup, jdupx, jdupx2, jdup2, jcat, jset1, jset2, jkill, List.getElem?_cons_zero, List.getElem?_cons_succ, List.set_cons_zero, List.set_cons_succ, List.length_cons, List.length_nil, Nat.reduceAdd, Nat.reduceLT, Int32.reduceToNatClampNeg, true_and, and_true, and_self, reduceCtorEq, not_false_eq_true, false_and, and_false, or_false, false_or, true_or, or_true, jmk_a, jmk_put, hak, hak0]
  refine jc_na X hR (w1 := 361) d_MM_init_15 rfl (by decide +kernel) (by decide) (by decide) 65536 (by decide) (by decide) rfl [.inl (.byte, 65536, .inl fun _ => 0), .inl (.byte, 65536, .inl fun _ => 0)] ha rfl rfl (n' := n + 2) rfl (c' := 2) rfl (s' := 131072) rfl ⟨Nat.le_of_ble_eq_true rfl, Nat.le_of_ble_eq_true rfl⟩ (pc' := 17) rfl ?_
  refine jrun_ok jC X k_MM_init_17 17 _ _ _ o_MM_init_17 ?_
  simp only [k_MM_init_17, jrun, jstep, jldi, jldl, jlda, j1, j2, jl1, jl2, jli, ja1, jbr, jald, jast, jlald, jlast, jalen, jget, jput, jfit, jdup, jdupx, jdupx2, jdup2, jcat, jset1, jset2, jkill, List.getElem?_cons_zero, List.getElem?_cons_succ, List.set_cons_zero, List.set_cons_succ, List.length_cons, List.length_nil, Nat.reduceAdd, Nat.reduceLT, Int32.reduceToNatClampNeg, true_and, and_true, and_self, reduceCtorEq, not_false_eq_true, false_and, and_false, or_false, false_or, true_or, or_true, jmk_a, jmk_put, hak, hak0]
  refine jc_nw jC X hR (w1 := 1908) (w2 := 1909) (w3 := 315) (ci := 12) d_MM_init_21 (q := ("ChessHouseModel$Texts", F_MT, 40)) rfl (by decide +kernel) (by decide +kernel) (by decide +kernel) (by decide +kernel) (fs := [.inl 0, .inl 0, .inr (.inr none), .inl 0, .inr (.inr none), .inl 0, .inl 0, .inr (.inr none), .inr (.inr none), .inr (.inr none), .inr (.inr none), .inr (.inr none), .inr (.inr none), .inr (.inr none), .inr (.inr none), .inr (.inr none), .inr (.inr none), .inr (.inr none), .inr (.inr none), .inr (.inr none), .inr (.inr none), .inr (.inr none), .inr (.inr none), .inr (.inr none), .inr (.inr none), .inl 0, .inl 0, .inl 0, .inl 0, .inl 0, .inr (.inr none), .inr (.inr none), .inr (.inr none), .inl 0, .inr (.inr none), .inr (.inr none), .inl 0, .inl 0, .inl 0, .inl 0]) (by decide +kernel) ha rfl (n' := n + 3) rfl (c' := 3) rfl (s' := 131112) rfl ⟨Nat.le_of_ble_eq_true rfl, Nat.le_of_ble_eq_true rfl⟩ (pc' := 24) rfl ?_
  refine jrun_ok jC X k_MM_init_24 24 _ _ _ o_MM_init_24 ?_
  simp only [k_MM_init_24, jrun, jstep, jldi, jldl, jlda, j1, j2, jl1, jl2, jli, ja1, jbr, jald, jast, jlald, jlast, jalen, jget, jput, jfit, jdup, jdupx, jdupx2, jdup2, jcat, jset1, jset2, jkill, List.getElem?_cons_zero, List.getElem?_cons_succ, List.set_cons_zero, List.set_cons_succ, List.length_cons, List.length_nil, Nat.reduceAdd, Nat.reduceLT, Int32.reduceToNatClampNeg, true_and, and_true, and_self, reduceCtorEq, not_false_eq_true, false_and, and_false, or_false, false_or, true_or, or_true, jmk_a, jmk_put, hak, hak0]
  refine jk_Ig X hR d_MM_init_25 q_MM_init_25 m_MT_init i_MT_init rfl rfl (vals := []) (r := [.inr (.inr (some (.inl (n + 2)))), .inr (.inr (some (.inl (a))))]) (cz_MT_init M.2.1 E (jmk σ a n (.inr (11, [.inl 0, .inl 0, .inr (.inr (some (.inl n))), .inl 0, .inr (.inr (some (.inl (n + 1)))), .inr (.inr none), .inr (.inr none), .inr (.inr none), .inl 0, .inl 0, .inl 0, .inl 0, .inl 0, .inl 0, .inr (.inr none), .inr (.inr none), .inl 0, .inr (.inr none), .inr (.inr none)])) ([.inl (.byte, 65536, .inl fun _ => 0), .inl (.byte, 65536, .inl fun _ => 0)] ++ [.inr (12, [.inl 0, .inl 0, .inr (.inr none), .inl 0, .inr (.inr none), .inl 0, .inl 0, .inr (.inr none), .inr (.inr none), .inr (.inr none), .inr (.inr none), .inr (.inr none), .inr (.inr none), .inr (.inr none), .inr (.inr none), .inr (.inr none), .inr (.inr none), .inr (.inr none), .inr (.inr none), .inr (.inr none), .inr (.inr none), .inr (.inr none), .inr (.inr none), .inr (.inr none), .inr (.inr none), .inl 0, .inl 0, .inl 0, .inl 0, .inl 0, .inr (.inr none), .inr (.inr none), .inr (.inr none), .inl 0, .inr (.inr none), .inr (.inr none), .inl 0, .inl 0, .inl 0, .inl 0])])) (n + 3) (n + 2) (by omega) (jmk_at (k := 2) ha (by rfl)) (fun p hp => zPl_jmk hpl (by trivial) (zPl_all (by rfl)) p (by exact hp))) rfl rfl ⟨Nat.le_of_ble_eq_true rfl, Nat.le_of_ble_eq_true rfl⟩ (c' := 28) rfl (s' := 407470) rfl ⟨Nat.le_of_ble_eq_true rfl, Nat.le_of_ble_eq_true rfl⟩ (Nat.le_of_ble_eq_true rfl) (pc' := 28) rfl ?_
  rintro _ _ _ ⟨F, A, rfl, rfl, hP, hT⟩
  refine jJ_congr (σ2 := jmk (jmk σ a n (.inr (11, [.inl 0, .inl 0, .inr (.inr (some (.inl n))), .inl 0, .inr (.inr (some (.inl (n + 1)))), .inr (.inr none), .inr (.inr none), .inr (.inr none), .inl 0, .inl 0, .inl 0, .inl 0, .inl 0, .inl 0, .inr (.inr none), .inr (.inr none), .inl 0, .inr (.inr none), .inr (.inr none)])) ([.inl (.byte, 65536, .inl fun _ => 0), .inl (.byte, 65536, .inl fun _ => 0)] ++ [.inr (12, [.inl 0, .inl 0, .inr (.inr none), .inl 0, .inr (.inr none), .inl 0, .inl 0, .inr (.inr none), .inr (.inr none), .inr (.inr none), .inr (.inr none), .inr (.inr none), .inr (.inr none), .inr (.inr none), .inr (.inr none), .inr (.inr none), .inr (.inr none), .inr (.inr none), .inr (.inr none), .inr (.inr none), .inr (.inr none), .inr (.inr none), .inr (.inr none), .inr (.inr none), .inr (.inr none), .inl 0, .inl 0, .inl 0, .inl 0, .inl 0, .inr (.inr none), .inr (.inr none), .inr (.inr none), .inl 0, .inr (.inr none), .inr (.inr none), .inl 0, .inl 0, .inl 0, .inl 0])])) (n + 2) (n + 3) (.inr (12, ta_fl (n + 3) F)) [.inl (.char, 65536, .inl (A 0)), .inl (.char, 80000, .inl (A 1)), .inl (.int, 2, .inl (A 2)), .inl (.int, 602, .inl (A 3)), .inl (.int, 602, .inl (A 4)), .inl (.int, 602, .inl (A 5)), .inl (.int, 602, .inl (A 6)), .inl (.int, 602, .inl (A 7)), .inl (.int, 2408, .inl (A 8)), .inl (.int, 602, .inl (A 9)), .inl (.char, 120400, .inl (A 10)), .inl (.int, 128, .inl (A 11)), .inl (.int, 10, .inl (A 12)), .inl (.int, 2, .inl (A 13)), .inl (.int, 16, .inl (A 14)), .inl (.char, 192, .inl (A 15)), .inl (.int, 16, .inl (A 16)), .inl (.char, 1536, .inl (A 17)), .inl (.int, 2, .inl (A 18)), .inl (.int, 64, .inl (A 19)), .inl (.int, 64, .inl (A 20)), .inl (.int, 5, .inl (A 21)), .inl (.int, 2048, .inl (A 22)), .inl (.int, 301, .inl (A 23)), .inl (.char, 16, .inl (A 24))]) (fun k hk => (hP k hk).trans (tx_jmk (F := F) (A := A) (by omega) (by rfl) (by rfl) k hk).symm) ?_
  rw [jmk_nest (a := a) (n := n) (b := n + 2) (m := n + 3) (cs := [.inl (.byte, 65536, .inl fun _ => 0), .inl (.byte, 65536, .inl fun _ => 0)]) ha rfl rfl]
  show jJ E jcl 1 M _ (n + 28) 28 (407470) 28 [some (.inr (.inr (some (.inl (a)))))] [.inr (.inr (some (.inl (n + 2)))), .inr (.inr (some (.inl (a))))] (jmk σ a n (.inr (11, [.inl 0, .inl 0, .inr (.inr (some (.inl n))), .inl 0, .inr (.inr (some (.inl (n + 1)))), .inr (.inr none), .inr (.inr none), .inr (.inr none), .inl 0, .inl 0, .inl 0, .inl 0, .inl 0, .inl 0, .inr (.inr none), .inr (.inr none), .inl 0, .inr (.inr none), .inr (.inr none)])) [.inl (.byte, 65536, .inl fun _ => 0), .inl (.byte, 65536, .inl fun _ => 0), .inr (12, [.inl (F 0), .inl (F 1), .inr (.inr (some (.inl (n + 3)))), .inl (F 3), .inr (.inr (some (.inl (n + 4)))), .inl (F 5), .inl (F 6), .inr (.inr (some (.inl (n + 5)))), .inr (.inr (some (.inl (n + 6)))), .inr (.inr (some (.inl (n + 7)))), .inr (.inr (some (.inl (n + 8)))), .inr (.inr (some (.inl (n + 9)))), .inr (.inr (some (.inl (n + 10)))), .inr (.inr (some (.inl (n + 11)))), .inr (.inr (some (.inl (n + 12)))), .inr (.inr (some (.inl (n + 13)))), .inr (.inr (some (.inl (n + 14)))), .inr (.inr (some (.inl (n + 15)))), .inr (.inr (some (.inl (n + 16)))), .inr (.inr (some (.inl (n + 17)))), .inr (.inr (some (.inl (n + 18)))), .inr (.inr (some (.inl (n + 19)))), .inr (.inr (some (.inl (n + 20)))), .inr (.inr (some (.inl (n + 21)))), .inr (.inr (some (.inl (n + 22)))), .inl (F 25), .inl (F 26), .inl (F 27), .inl (F 28), .inl (F 29), .inr (.inr (some (.inl (n + 23)))), .inr (.inr (some (.inl (n + 24)))), .inr (.inr (some (.inl (n + 25)))), .inl (F 33), .inr (.inr (some (.inl (n + 26)))), .inr (.inr (some (.inl (n + 27)))), .inl (F 36), .inl (F 37), .inl (F 38), .inl (F 39)]), .inl (.char, 65536, .inl (A 0)), .inl (.char, 80000, .inl (A 1)), .inl (.int, 2, .inl (A 2)), .inl (.int, 602, .inl (A 3)), .inl (.int, 602, .inl (A 4)), .inl (.int, 602, .inl (A 5)), .inl (.int, 602, .inl (A 6)), .inl (.int, 602, .inl (A 7)), .inl (.int, 2408, .inl (A 8)), .inl (.int, 602, .inl (A 9)), .inl (.char, 120400, .inl (A 10)), .inl (.int, 128, .inl (A 11)), .inl (.int, 10, .inl (A 12)), .inl (.int, 2, .inl (A 13)), .inl (.int, 16, .inl (A 14)), .inl (.char, 192, .inl (A 15)), .inl (.int, 16, .inl (A 16)), .inl (.char, 1536, .inl (A 17)), .inl (.int, 2, .inl (A 18)), .inl (.int, 64, .inl (A 19)), .inl (.int, 64, .inl (A 20)), .inl (.int, 5, .inl (A 21)), .inl (.int, 2048, .inl (A 22)), .inl (.int, 301, .inl (A 23)), .inl (.char, 16, .inl (A 24))])
  refine jrun_ok jC X k_MM_init_28 28 _ _ _ o_MM_init_28 ?_
  simp only [k_MM_init_28, jrun, jstep, jldi, jldl, jlda, j1, j2, jl1, jl2, jli, ja1, jbr, jald, jast, jlald, jlast, jalen, jget, jput, jfit, jdup, jdupx, jdupx2, jdup2, jcat, jset1, jset2, jkill, List.getElem?_cons_zero, List.getElem?_cons_succ, List.set_cons_zero, List.set_cons_succ, List.length_cons, List.length_nil, Nat.reduceAdd, Nat.reduceLT, Int32.reduceToNatClampNeg, true_and, and_true, and_self, reduceCtorEq, not_false_eq_true, false_and, and_false, or_false, false_or, true_or, or_true, jmk_a, jmk_put, hak, hak0]
  refine jc_nw jC X hR (w1 := 2163) (w2 := 2164) (w3 := 316) (ci := 13) d_MM_init_32 (q := ("ChessHouseModel$Board", F_MB, 37)) rfl (by decide +kernel) (by decide +kernel) (by decide +kernel) (by decide +kernel) (fs := [.inl 0, .inr (.inr none), .inr (.inr none), .inl 0, .inl 0, .inl 0, .inl 0, .inl 0, .inl 0, .inr (.inr none), .inr (.inr none), .inr (.inr none), .inr (.inr none), .inr (.inr none), .inr (.inr none), .inr (.inr none), .inr (.inr none), .inr (.inr none), .inr (.inr none), .inr (.inr none), .inr (.inr none), .inr (.inr none), .inr (.inr none), .inl 0, .inl 0, .inl 0, .inl 0, .inl 0, .inr (.inr none), .inl 0, .inr (.inr none), .inl 0, .inl 0, .inr (.inr none), .inr (.inr none), .inr (.inr none), .inl 0]) (by decide +kernel) ha rfl (n' := n + 29) rfl (c' := 29) rfl (s' := 407507) rfl ⟨Nat.le_of_ble_eq_true rfl, Nat.le_of_ble_eq_true rfl⟩ (pc' := 35) rfl ?_
  refine jrun_ok jC X k_MM_init_35 35 _ _ _ o_MM_init_35 ?_
  simp only [k_MM_init_35, jrun, jstep, jldi, jldl, jlda, j1, j2, jl1, jl2, jli, ja1, jbr, jald, jast, jlald, jlast, jalen, jget, jput, jfit, jdup, jdupx, jdupx2, jdup2, jcat, jset1, jset2, jkill, List.getElem?_cons_zero, List.getElem?_cons_succ, List.set_cons_zero, List.set_cons_succ, List.length_cons, List.length_nil, Nat.reduceAdd, Nat.reduceLT, Int32.reduceToNatClampNeg, true_and, and_true, and_self, reduceCtorEq, not_false_eq_true, false_and, and_false, or_false, false_or, true_or, or_true, jmk_a, jmk_put, hak, hak0]
  refine jk_Ig X hR d_MM_init_36 q_MM_init_36 m_MB_init i_MB_init rfl rfl (vals := []) (r := [.inr (.inr (some (.inl (n + 28)))), .inr (.inr (some (.inl (a))))]) (c_MB_init M.2.1 E (jmk σ a n (.inr (11, [.inl 0, .inl 0, .inr (.inr (some (.inl n))), .inl 0, .inr (.inr (some (.inl (n + 1)))), .inr (.inr (some (.inl (n + 2)))), .inr (.inr none), .inr (.inr none), .inl 0, .inl 0, .inl 0, .inl 0, .inl 0, .inl 0, .inr (.inr none), .inr (.inr none), .inl 0, .inr (.inr none), .inr (.inr none)])) ([.inl (.byte, 65536, .inl fun _ => 0), .inl (.byte, 65536, .inl fun _ => 0), .inr (12, [.inl (F 0), .inl (F 1), .inr (.inr (some (.inl (n + 3)))), .inl (F 3), .inr (.inr (some (.inl (n + 4)))), .inl (F 5), .inl (F 6), .inr (.inr (some (.inl (n + 5)))), .inr (.inr (some (.inl (n + 6)))), .inr (.inr (some (.inl (n + 7)))), .inr (.inr (some (.inl (n + 8)))), .inr (.inr (some (.inl (n + 9)))), .inr (.inr (some (.inl (n + 10)))), .inr (.inr (some (.inl (n + 11)))), .inr (.inr (some (.inl (n + 12)))), .inr (.inr (some (.inl (n + 13)))), .inr (.inr (some (.inl (n + 14)))), .inr (.inr (some (.inl (n + 15)))), .inr (.inr (some (.inl (n + 16)))), .inr (.inr (some (.inl (n + 17)))), .inr (.inr (some (.inl (n + 18)))), .inr (.inr (some (.inl (n + 19)))), .inr (.inr (some (.inl (n + 20)))), .inr (.inr (some (.inl (n + 21)))), .inr (.inr (some (.inl (n + 22)))), .inl (F 25), .inl (F 26), .inl (F 27), .inl (F 28), .inl (F 29), .inr (.inr (some (.inl (n + 23)))), .inr (.inr (some (.inl (n + 24)))), .inr (.inr (some (.inl (n + 25)))), .inl (F 33), .inr (.inr (some (.inl (n + 26)))), .inr (.inr (some (.inl (n + 27)))), .inl (F 36), .inl (F 37), .inl (F 38), .inl (F 39)]), .inl (.char, 65536, .inl (A 0)), .inl (.char, 80000, .inl (A 1)), .inl (.int, 2, .inl (A 2)), .inl (.int, 602, .inl (A 3)), .inl (.int, 602, .inl (A 4)), .inl (.int, 602, .inl (A 5)), .inl (.int, 602, .inl (A 6)), .inl (.int, 602, .inl (A 7)), .inl (.int, 2408, .inl (A 8)), .inl (.int, 602, .inl (A 9)), .inl (.char, 120400, .inl (A 10)), .inl (.int, 128, .inl (A 11)), .inl (.int, 10, .inl (A 12)), .inl (.int, 2, .inl (A 13)), .inl (.int, 16, .inl (A 14)), .inl (.char, 192, .inl (A 15)), .inl (.int, 16, .inl (A 16)), .inl (.char, 1536, .inl (A 17)), .inl (.int, 2, .inl (A 18)), .inl (.int, 64, .inl (A 19)), .inl (.int, 64, .inl (A 20)), .inl (.int, 5, .inl (A 21)), .inl (.int, 2048, .inl (A 22)), .inl (.int, 301, .inl (A 23)), .inl (.char, 16, .inl (A 24))] ++ [.inr (13, [.inl 0, .inr (.inr none), .inr (.inr none), .inl 0, .inl 0, .inl 0, .inl 0, .inl 0, .inl 0, .inr (.inr none), .inr (.inr none), .inr (.inr none), .inr (.inr none), .inr (.inr none), .inr (.inr none), .inr (.inr none), .inr (.inr none), .inr (.inr none), .inr (.inr none), .inr (.inr none), .inr (.inr none), .inr (.inr none), .inr (.inr none), .inl 0, .inl 0, .inl 0, .inl 0, .inl 0, .inr (.inr none), .inl 0, .inr (.inr none), .inl 0, .inl 0, .inr (.inr none), .inr (.inr none), .inr (.inr none), .inl 0])])) (n + 29) (n + 28) (by omega) (jmk_at (k := 28) ha (by rfl))) rfl rfl ⟨Nat.le_of_ble_eq_true rfl, Nat.le_of_ble_eq_true rfl⟩ (c' := 49) rfl (s' := 516768) rfl ⟨Nat.le_of_ble_eq_true rfl, Nat.le_of_ble_eq_true rfl⟩ (Nat.le_of_ble_eq_true rfl) (pc' := 39) rfl ?_
  rintro _ _ _ ⟨rfl, rfl, rfl⟩
  rw [jmk_nest (a := a) (n := n) (b := n + 28) (m := n + 29) (cs := [.inl (.byte, 65536, .inl fun _ => 0), .inl (.byte, 65536, .inl fun _ => 0), .inr (12, [.inl (F 0), .inl (F 1), .inr (.inr (some (.inl (n + 3)))), .inl (F 3), .inr (.inr (some (.inl (n + 4)))), .inl (F 5), .inl (F 6), .inr (.inr (some (.inl (n + 5)))), .inr (.inr (some (.inl (n + 6)))), .inr (.inr (some (.inl (n + 7)))), .inr (.inr (some (.inl (n + 8)))), .inr (.inr (some (.inl (n + 9)))), .inr (.inr (some (.inl (n + 10)))), .inr (.inr (some (.inl (n + 11)))), .inr (.inr (some (.inl (n + 12)))), .inr (.inr (some (.inl (n + 13)))), .inr (.inr (some (.inl (n + 14)))), .inr (.inr (some (.inl (n + 15)))), .inr (.inr (some (.inl (n + 16)))), .inr (.inr (some (.inl (n + 17)))), .inr (.inr (some (.inl (n + 18)))), .inr (.inr (some (.inl (n + 19)))), .inr (.inr (some (.inl (n + 20)))), .inr (.inr (some (.inl (n + 21)))), .inr (.inr (some (.inl (n + 22)))), .inl (F 25), .inl (F 26), .inl (F 27), .inl (F 28), .inl (F 29), .inr (.inr (some (.inl (n + 23)))), .inr (.inr (some (.inl (n + 24)))), .inr (.inr (some (.inl (n + 25)))), .inl (F 33), .inr (.inr (some (.inl (n + 26)))), .inr (.inr (some (.inl (n + 27)))), .inl (F 36), .inl (F 37), .inl (F 38), .inl (F 39)]), .inl (.char, 65536, .inl (A 0)), .inl (.char, 80000, .inl (A 1)), .inl (.int, 2, .inl (A 2)), .inl (.int, 602, .inl (A 3)), .inl (.int, 602, .inl (A 4)), .inl (.int, 602, .inl (A 5)), .inl (.int, 602, .inl (A 6)), .inl (.int, 602, .inl (A 7)), .inl (.int, 2408, .inl (A 8)), .inl (.int, 602, .inl (A 9)), .inl (.char, 120400, .inl (A 10)), .inl (.int, 128, .inl (A 11)), .inl (.int, 10, .inl (A 12)), .inl (.int, 2, .inl (A 13)), .inl (.int, 16, .inl (A 14)), .inl (.char, 192, .inl (A 15)), .inl (.int, 16, .inl (A 16)), .inl (.char, 1536, .inl (A 17)), .inl (.int, 2, .inl (A 18)), .inl (.int, 64, .inl (A 19)), .inl (.int, 64, .inl (A 20)), .inl (.int, 5, .inl (A 21)), .inl (.int, 2048, .inl (A 22)), .inl (.int, 301, .inl (A 23)), .inl (.char, 16, .inl (A 24))]) ha rfl rfl]
  show jJ E jcl 1 M _ (n + 49) 49 (516768) 39 [some (.inr (.inr (some (.inl (a)))))] [.inr (.inr (some (.inl (n + 28)))), .inr (.inr (some (.inl (a))))] (jmk σ a n (.inr (11, [.inl 0, .inl 0, .inr (.inr (some (.inl n))), .inl 0, .inr (.inr (some (.inl (n + 1)))), .inr (.inr (some (.inl (n + 2)))), .inr (.inr none), .inr (.inr none), .inl 0, .inl 0, .inl 0, .inl 0, .inl 0, .inl 0, .inr (.inr none), .inr (.inr none), .inl 0, .inr (.inr none), .inr (.inr none)])) [.inl (.byte, 65536, .inl fun _ => 0), .inl (.byte, 65536, .inl fun _ => 0), .inr (12, [.inl (F 0), .inl (F 1), .inr (.inr (some (.inl (n + 3)))), .inl (F 3), .inr (.inr (some (.inl (n + 4)))), .inl (F 5), .inl (F 6), .inr (.inr (some (.inl (n + 5)))), .inr (.inr (some (.inl (n + 6)))), .inr (.inr (some (.inl (n + 7)))), .inr (.inr (some (.inl (n + 8)))), .inr (.inr (some (.inl (n + 9)))), .inr (.inr (some (.inl (n + 10)))), .inr (.inr (some (.inl (n + 11)))), .inr (.inr (some (.inl (n + 12)))), .inr (.inr (some (.inl (n + 13)))), .inr (.inr (some (.inl (n + 14)))), .inr (.inr (some (.inl (n + 15)))), .inr (.inr (some (.inl (n + 16)))), .inr (.inr (some (.inl (n + 17)))), .inr (.inr (some (.inl (n + 18)))), .inr (.inr (some (.inl (n + 19)))), .inr (.inr (some (.inl (n + 20)))), .inr (.inr (some (.inl (n + 21)))), .inr (.inr (some (.inl (n + 22)))), .inl (F 25), .inl (F 26), .inl (F 27), .inl (F 28), .inl (F 29), .inr (.inr (some (.inl (n + 23)))), .inr (.inr (some (.inl (n + 24)))), .inr (.inr (some (.inl (n + 25)))), .inl (F 33), .inr (.inr (some (.inl (n + 26)))), .inr (.inr (some (.inl (n + 27)))), .inl (F 36), .inl (F 37), .inl (F 38), .inl (F 39)]), .inl (.char, 65536, .inl (A 0)), .inl (.char, 80000, .inl (A 1)), .inl (.int, 2, .inl (A 2)), .inl (.int, 602, .inl (A 3)), .inl (.int, 602, .inl (A 4)), .inl (.int, 602, .inl (A 5)), .inl (.int, 602, .inl (A 6)), .inl (.int, 602, .inl (A 7)), .inl (.int, 2408, .inl (A 8)), .inl (.int, 602, .inl (A 9)), .inl (.char, 120400, .inl (A 10)), .inl (.int, 128, .inl (A 11)), .inl (.int, 10, .inl (A 12)), .inl (.int, 2, .inl (A 13)), .inl (.int, 16, .inl (A 14)), .inl (.char, 192, .inl (A 15)), .inl (.int, 16, .inl (A 16)), .inl (.char, 1536, .inl (A 17)), .inl (.int, 2, .inl (A 18)), .inl (.int, 64, .inl (A 19)), .inl (.int, 64, .inl (A 20)), .inl (.int, 5, .inl (A 21)), .inl (.int, 2048, .inl (A 22)), .inl (.int, 301, .inl (A 23)), .inl (.char, 16, .inl (A 24)), .inr (13, [.inl 0, .inr (.inr (some (.inl (n + 29)))), .inr (.inr (some (.inl (n + 30)))), .inl 0, .inl 0, .inl (-1), .inl 0, .inl 0, .inl 0, .inr (.inr (some (.inl (n + 31)))), .inr (.inr (some (.inl (n + 32)))), .inr (.inr (some (.inl (n + 33)))), .inr (.inr (some (.inl (n + 34)))), .inr (.inr (some (.inl (n + 35)))), .inr (.inr (some (.inl (n + 36)))), .inr (.inr (some (.inl (n + 37)))), .inr (.inr (some (.inl (n + 38)))), .inr (.inr (some (.inl (n + 39)))), .inr (.inr (some (.inl (n + 40)))), .inr (.inr (some (.inl (n + 41)))), .inr (.inr (some (.inl (n + 42)))), .inr (.inr (some (.inl (n + 43)))), .inr (.inr (some (.inl (n + 44)))), .inl 0, .inl 0, .inl 0, .inl 0, .inl 0, .inr (.inr (some (.inl (n + 45)))), .inl 0, .inr (.inr (some (.inl (n + 46)))), .inl 0, .inl 0, .inr (.inr (some (.inl (n + 47)))), .inr (.inr (some (.inl (n + 48)))), .inr (.inr none), .inl 0]), .inl (.char, 65536, .inl fun _ => 0), .inl (.int, 64, .inl fun _ => 0), .inl (.int, 19520, .inl fun _ => 0), .inl (.int, 305, .inl fun _ => 0), .inl (.int, 305, .inl fun _ => 0), .inl (.int, 305, .inl fun _ => 0), .inl (.int, 305, .inl fun _ => 0), .inl (.int, 305, .inl fun _ => 0), .inl (.int, 11, .inl fun _ => 0), .inl (.int, 11, .inl fun _ => 0), .inl (.int, 11, .inl fun _ => 0), .inl (.int, 11, .inl fun _ => 0), .inl (.int, 11, .inl fun _ => 0), .inl (.int, 11, .inl fun _ => 0), .inl (.int, 20480, .inl fun _ => 0), .inl (.int, 10, .inl fun _ => 0), .inl (.int, 4, .inl fun _ => 0), .inl (.int, 2048, .inl fun _ => 0), .inl (.int, 4, .inl fun _ => 0), .inl (.int, 4, .inl fun _ => 0)])
  refine jrun_ok jC X k_MM_init_39 39 _ _ _ o_MM_init_39 ?_
  simp only [k_MM_init_39, jrun, jstep, jldi, jldl, jlda, j1, j2, jl1, jl2, jli, ja1, jbr, jald, jast, jlald, jlast, jalen, jget, jput, jfit, jdup, jdupx, jdupx2, jdup2, jcat, jset1, jset2, jkill, List.getElem?_cons_zero, List.getElem?_cons_succ, List.set_cons_zero, List.set_cons_succ, List.length_cons, List.length_nil, Nat.reduceAdd, Nat.reduceLT, Int32.reduceToNatClampNeg, true_and, and_true, and_self, reduceCtorEq, not_false_eq_true, false_and, and_false, or_false, false_or, true_or, or_true, jmk_a, jmk_put, hak, hak0]
  refine jc_na X hR (w1 := 387) d_MM_init_45 rfl (by decide +kernel) (by decide) (by decide) 32768 (by decide) (by decide) rfl [.inl (.byte, 65536, .inl fun _ => 0), .inl (.byte, 65536, .inl fun _ => 0), .inr (12, [.inl (F 0), .inl (F 1), .inr (.inr (some (.inl (n + 3)))), .inl (F 3), .inr (.inr (some (.inl (n + 4)))), .inl (F 5), .inl (F 6), .inr (.inr (some (.inl (n + 5)))), .inr (.inr (some (.inl (n + 6)))), .inr (.inr (some (.inl (n + 7)))), .inr (.inr (some (.inl (n + 8)))), .inr (.inr (some (.inl (n + 9)))), .inr (.inr (some (.inl (n + 10)))), .inr (.inr (some (.inl (n + 11)))), .inr (.inr (some (.inl (n + 12)))), .inr (.inr (some (.inl (n + 13)))), .inr (.inr (some (.inl (n + 14)))), .inr (.inr (some (.inl (n + 15)))), .inr (.inr (some (.inl (n + 16)))), .inr (.inr (some (.inl (n + 17)))), .inr (.inr (some (.inl (n + 18)))), .inr (.inr (some (.inl (n + 19)))), .inr (.inr (some (.inl (n + 20)))), .inr (.inr (some (.inl (n + 21)))), .inr (.inr (some (.inl (n + 22)))), .inl (F 25), .inl (F 26), .inl (F 27), .inl (F 28), .inl (F 29), .inr (.inr (some (.inl (n + 23)))), .inr (.inr (some (.inl (n + 24)))), .inr (.inr (some (.inl (n + 25)))), .inl (F 33), .inr (.inr (some (.inl (n + 26)))), .inr (.inr (some (.inl (n + 27)))), .inl (F 36), .inl (F 37), .inl (F 38), .inl (F 39)]), .inl (.char, 65536, .inl (A 0)), .inl (.char, 80000, .inl (A 1)), .inl (.int, 2, .inl (A 2)), .inl (.int, 602, .inl (A 3)), .inl (.int, 602, .inl (A 4)), .inl (.int, 602, .inl (A 5)), .inl (.int, 602, .inl (A 6)), .inl (.int, 602, .inl (A 7)), .inl (.int, 2408, .inl (A 8)), .inl (.int, 602, .inl (A 9)), .inl (.char, 120400, .inl (A 10)), .inl (.int, 128, .inl (A 11)), .inl (.int, 10, .inl (A 12)), .inl (.int, 2, .inl (A 13)), .inl (.int, 16, .inl (A 14)), .inl (.char, 192, .inl (A 15)), .inl (.int, 16, .inl (A 16)), .inl (.char, 1536, .inl (A 17)), .inl (.int, 2, .inl (A 18)), .inl (.int, 64, .inl (A 19)), .inl (.int, 64, .inl (A 20)), .inl (.int, 5, .inl (A 21)), .inl (.int, 2048, .inl (A 22)), .inl (.int, 301, .inl (A 23)), .inl (.char, 16, .inl (A 24)), .inr (13, [.inl 0, .inr (.inr (some (.inl (n + 29)))), .inr (.inr (some (.inl (n + 30)))), .inl 0, .inl 0, .inl (-1), .inl 0, .inl 0, .inl 0, .inr (.inr (some (.inl (n + 31)))), .inr (.inr (some (.inl (n + 32)))), .inr (.inr (some (.inl (n + 33)))), .inr (.inr (some (.inl (n + 34)))), .inr (.inr (some (.inl (n + 35)))), .inr (.inr (some (.inl (n + 36)))), .inr (.inr (some (.inl (n + 37)))), .inr (.inr (some (.inl (n + 38)))), .inr (.inr (some (.inl (n + 39)))), .inr (.inr (some (.inl (n + 40)))), .inr (.inr (some (.inl (n + 41)))), .inr (.inr (some (.inl (n + 42)))), .inr (.inr (some (.inl (n + 43)))), .inr (.inr (some (.inl (n + 44)))), .inl 0, .inl 0, .inl 0, .inl 0, .inl 0, .inr (.inr (some (.inl (n + 45)))), .inl 0, .inr (.inr (some (.inl (n + 46)))), .inl 0, .inl 0, .inr (.inr (some (.inl (n + 47)))), .inr (.inr (some (.inl (n + 48)))), .inr (.inr none), .inl 0]), .inl (.char, 65536, .inl fun _ => 0), .inl (.int, 64, .inl fun _ => 0), .inl (.int, 19520, .inl fun _ => 0), .inl (.int, 305, .inl fun _ => 0), .inl (.int, 305, .inl fun _ => 0), .inl (.int, 305, .inl fun _ => 0), .inl (.int, 305, .inl fun _ => 0), .inl (.int, 305, .inl fun _ => 0), .inl (.int, 11, .inl fun _ => 0), .inl (.int, 11, .inl fun _ => 0), .inl (.int, 11, .inl fun _ => 0), .inl (.int, 11, .inl fun _ => 0), .inl (.int, 11, .inl fun _ => 0), .inl (.int, 11, .inl fun _ => 0), .inl (.int, 20480, .inl fun _ => 0), .inl (.int, 10, .inl fun _ => 0), .inl (.int, 4, .inl fun _ => 0), .inl (.int, 2048, .inl fun _ => 0), .inl (.int, 4, .inl fun _ => 0), .inl (.int, 4, .inl fun _ => 0), .inl (.int, 32768, .inl fun _ => 0)] ha rfl rfl (n' := n + 50) rfl (c' := 50) rfl (s' := 549536) rfl ⟨Nat.le_of_ble_eq_true rfl, Nat.le_of_ble_eq_true rfl⟩ (pc' := 47) rfl ?_
  refine jrun_ok jC X k_MM_init_47 47 _ _ _ o_MM_init_47 ?_
  simp only [k_MM_init_47, jrun, jstep, jldi, jldl, jlda, j1, j2, jl1, jl2, jli, ja1, jbr, jald, jast, jlald, jlast, jalen, jget, jput, jfit, jdup, jdupx, jdupx2, jdup2, jcat, jset1, jset2, jkill, List.getElem?_cons_zero, List.getElem?_cons_succ, List.set_cons_zero, List.set_cons_succ, List.length_cons, List.length_nil, Nat.reduceAdd, Nat.reduceLT, Int32.reduceToNatClampNeg, true_and, and_true, and_self, reduceCtorEq, not_false_eq_true, false_and, and_false, or_false, false_or, true_or, or_true, jmk_a, jmk_put, hak, hak0]
  refine jc_na X hR (w1 := 387) d_MM_init_53 rfl (by decide +kernel) (by decide) (by decide) 32768 (by decide) (by decide) rfl [.inl (.byte, 65536, .inl fun _ => 0), .inl (.byte, 65536, .inl fun _ => 0), .inr (12, [.inl (F 0), .inl (F 1), .inr (.inr (some (.inl (n + 3)))), .inl (F 3), .inr (.inr (some (.inl (n + 4)))), .inl (F 5), .inl (F 6), .inr (.inr (some (.inl (n + 5)))), .inr (.inr (some (.inl (n + 6)))), .inr (.inr (some (.inl (n + 7)))), .inr (.inr (some (.inl (n + 8)))), .inr (.inr (some (.inl (n + 9)))), .inr (.inr (some (.inl (n + 10)))), .inr (.inr (some (.inl (n + 11)))), .inr (.inr (some (.inl (n + 12)))), .inr (.inr (some (.inl (n + 13)))), .inr (.inr (some (.inl (n + 14)))), .inr (.inr (some (.inl (n + 15)))), .inr (.inr (some (.inl (n + 16)))), .inr (.inr (some (.inl (n + 17)))), .inr (.inr (some (.inl (n + 18)))), .inr (.inr (some (.inl (n + 19)))), .inr (.inr (some (.inl (n + 20)))), .inr (.inr (some (.inl (n + 21)))), .inr (.inr (some (.inl (n + 22)))), .inl (F 25), .inl (F 26), .inl (F 27), .inl (F 28), .inl (F 29), .inr (.inr (some (.inl (n + 23)))), .inr (.inr (some (.inl (n + 24)))), .inr (.inr (some (.inl (n + 25)))), .inl (F 33), .inr (.inr (some (.inl (n + 26)))), .inr (.inr (some (.inl (n + 27)))), .inl (F 36), .inl (F 37), .inl (F 38), .inl (F 39)]), .inl (.char, 65536, .inl (A 0)), .inl (.char, 80000, .inl (A 1)), .inl (.int, 2, .inl (A 2)), .inl (.int, 602, .inl (A 3)), .inl (.int, 602, .inl (A 4)), .inl (.int, 602, .inl (A 5)), .inl (.int, 602, .inl (A 6)), .inl (.int, 602, .inl (A 7)), .inl (.int, 2408, .inl (A 8)), .inl (.int, 602, .inl (A 9)), .inl (.char, 120400, .inl (A 10)), .inl (.int, 128, .inl (A 11)), .inl (.int, 10, .inl (A 12)), .inl (.int, 2, .inl (A 13)), .inl (.int, 16, .inl (A 14)), .inl (.char, 192, .inl (A 15)), .inl (.int, 16, .inl (A 16)), .inl (.char, 1536, .inl (A 17)), .inl (.int, 2, .inl (A 18)), .inl (.int, 64, .inl (A 19)), .inl (.int, 64, .inl (A 20)), .inl (.int, 5, .inl (A 21)), .inl (.int, 2048, .inl (A 22)), .inl (.int, 301, .inl (A 23)), .inl (.char, 16, .inl (A 24)), .inr (13, [.inl 0, .inr (.inr (some (.inl (n + 29)))), .inr (.inr (some (.inl (n + 30)))), .inl 0, .inl 0, .inl (-1), .inl 0, .inl 0, .inl 0, .inr (.inr (some (.inl (n + 31)))), .inr (.inr (some (.inl (n + 32)))), .inr (.inr (some (.inl (n + 33)))), .inr (.inr (some (.inl (n + 34)))), .inr (.inr (some (.inl (n + 35)))), .inr (.inr (some (.inl (n + 36)))), .inr (.inr (some (.inl (n + 37)))), .inr (.inr (some (.inl (n + 38)))), .inr (.inr (some (.inl (n + 39)))), .inr (.inr (some (.inl (n + 40)))), .inr (.inr (some (.inl (n + 41)))), .inr (.inr (some (.inl (n + 42)))), .inr (.inr (some (.inl (n + 43)))), .inr (.inr (some (.inl (n + 44)))), .inl 0, .inl 0, .inl 0, .inl 0, .inl 0, .inr (.inr (some (.inl (n + 45)))), .inl 0, .inr (.inr (some (.inl (n + 46)))), .inl 0, .inl 0, .inr (.inr (some (.inl (n + 47)))), .inr (.inr (some (.inl (n + 48)))), .inr (.inr none), .inl 0]), .inl (.char, 65536, .inl fun _ => 0), .inl (.int, 64, .inl fun _ => 0), .inl (.int, 19520, .inl fun _ => 0), .inl (.int, 305, .inl fun _ => 0), .inl (.int, 305, .inl fun _ => 0), .inl (.int, 305, .inl fun _ => 0), .inl (.int, 305, .inl fun _ => 0), .inl (.int, 305, .inl fun _ => 0), .inl (.int, 11, .inl fun _ => 0), .inl (.int, 11, .inl fun _ => 0), .inl (.int, 11, .inl fun _ => 0), .inl (.int, 11, .inl fun _ => 0), .inl (.int, 11, .inl fun _ => 0), .inl (.int, 11, .inl fun _ => 0), .inl (.int, 20480, .inl fun _ => 0), .inl (.int, 10, .inl fun _ => 0), .inl (.int, 4, .inl fun _ => 0), .inl (.int, 2048, .inl fun _ => 0), .inl (.int, 4, .inl fun _ => 0), .inl (.int, 4, .inl fun _ => 0), .inl (.int, 32768, .inl fun _ => 0), .inl (.int, 32768, .inl fun _ => 0)] ha rfl rfl (n' := n + 51) rfl (c' := 51) rfl (s' := 582304) rfl ⟨Nat.le_of_ble_eq_true rfl, Nat.le_of_ble_eq_true rfl⟩ (pc' := 55) rfl ?_
  refine jrun_ok jC X k_MM_init_55 55 _ _ _ o_MM_init_55 ?_
  simp only [k_MM_init_55, jrun, jstep, jldi, jldl, jlda, j1, j2, jl1, jl2, jli, ja1, jbr, jald, jast, jlald, jlast, jalen, jget, jput, jfit, jdup, jdupx, jdupx2, jdup2, jcat, jset1, jset2, jkill, List.getElem?_cons_zero, List.getElem?_cons_succ, List.set_cons_zero, List.set_cons_succ, List.length_cons, List.length_nil, Nat.reduceAdd, Nat.reduceLT, Int32.reduceToNatClampNeg, true_and, and_true, and_self, reduceCtorEq, not_false_eq_true, false_and, and_false, or_false, false_or, true_or, or_true, jmk_a, jmk_put, hak, hak0]
  refine jc_na X hR (w1 := 387) d_MM_init_62 rfl (by decide +kernel) (by decide) (by decide) 301 (by decide) (by decide) rfl [.inl (.byte, 65536, .inl fun _ => 0), .inl (.byte, 65536, .inl fun _ => 0), .inr (12, [.inl (F 0), .inl (F 1), .inr (.inr (some (.inl (n + 3)))), .inl (F 3), .inr (.inr (some (.inl (n + 4)))), .inl (F 5), .inl (F 6), .inr (.inr (some (.inl (n + 5)))), .inr (.inr (some (.inl (n + 6)))), .inr (.inr (some (.inl (n + 7)))), .inr (.inr (some (.inl (n + 8)))), .inr (.inr (some (.inl (n + 9)))), .inr (.inr (some (.inl (n + 10)))), .inr (.inr (some (.inl (n + 11)))), .inr (.inr (some (.inl (n + 12)))), .inr (.inr (some (.inl (n + 13)))), .inr (.inr (some (.inl (n + 14)))), .inr (.inr (some (.inl (n + 15)))), .inr (.inr (some (.inl (n + 16)))), .inr (.inr (some (.inl (n + 17)))), .inr (.inr (some (.inl (n + 18)))), .inr (.inr (some (.inl (n + 19)))), .inr (.inr (some (.inl (n + 20)))), .inr (.inr (some (.inl (n + 21)))), .inr (.inr (some (.inl (n + 22)))), .inl (F 25), .inl (F 26), .inl (F 27), .inl (F 28), .inl (F 29), .inr (.inr (some (.inl (n + 23)))), .inr (.inr (some (.inl (n + 24)))), .inr (.inr (some (.inl (n + 25)))), .inl (F 33), .inr (.inr (some (.inl (n + 26)))), .inr (.inr (some (.inl (n + 27)))), .inl (F 36), .inl (F 37), .inl (F 38), .inl (F 39)]), .inl (.char, 65536, .inl (A 0)), .inl (.char, 80000, .inl (A 1)), .inl (.int, 2, .inl (A 2)), .inl (.int, 602, .inl (A 3)), .inl (.int, 602, .inl (A 4)), .inl (.int, 602, .inl (A 5)), .inl (.int, 602, .inl (A 6)), .inl (.int, 602, .inl (A 7)), .inl (.int, 2408, .inl (A 8)), .inl (.int, 602, .inl (A 9)), .inl (.char, 120400, .inl (A 10)), .inl (.int, 128, .inl (A 11)), .inl (.int, 10, .inl (A 12)), .inl (.int, 2, .inl (A 13)), .inl (.int, 16, .inl (A 14)), .inl (.char, 192, .inl (A 15)), .inl (.int, 16, .inl (A 16)), .inl (.char, 1536, .inl (A 17)), .inl (.int, 2, .inl (A 18)), .inl (.int, 64, .inl (A 19)), .inl (.int, 64, .inl (A 20)), .inl (.int, 5, .inl (A 21)), .inl (.int, 2048, .inl (A 22)), .inl (.int, 301, .inl (A 23)), .inl (.char, 16, .inl (A 24)), .inr (13, [.inl 0, .inr (.inr (some (.inl (n + 29)))), .inr (.inr (some (.inl (n + 30)))), .inl 0, .inl 0, .inl (-1), .inl 0, .inl 0, .inl 0, .inr (.inr (some (.inl (n + 31)))), .inr (.inr (some (.inl (n + 32)))), .inr (.inr (some (.inl (n + 33)))), .inr (.inr (some (.inl (n + 34)))), .inr (.inr (some (.inl (n + 35)))), .inr (.inr (some (.inl (n + 36)))), .inr (.inr (some (.inl (n + 37)))), .inr (.inr (some (.inl (n + 38)))), .inr (.inr (some (.inl (n + 39)))), .inr (.inr (some (.inl (n + 40)))), .inr (.inr (some (.inl (n + 41)))), .inr (.inr (some (.inl (n + 42)))), .inr (.inr (some (.inl (n + 43)))), .inr (.inr (some (.inl (n + 44)))), .inl 0, .inl 0, .inl 0, .inl 0, .inl 0, .inr (.inr (some (.inl (n + 45)))), .inl 0, .inr (.inr (some (.inl (n + 46)))), .inl 0, .inl 0, .inr (.inr (some (.inl (n + 47)))), .inr (.inr (some (.inl (n + 48)))), .inr (.inr none), .inl 0]), .inl (.char, 65536, .inl fun _ => 0), .inl (.int, 64, .inl fun _ => 0), .inl (.int, 19520, .inl fun _ => 0), .inl (.int, 305, .inl fun _ => 0), .inl (.int, 305, .inl fun _ => 0), .inl (.int, 305, .inl fun _ => 0), .inl (.int, 305, .inl fun _ => 0), .inl (.int, 305, .inl fun _ => 0), .inl (.int, 11, .inl fun _ => 0), .inl (.int, 11, .inl fun _ => 0), .inl (.int, 11, .inl fun _ => 0), .inl (.int, 11, .inl fun _ => 0), .inl (.int, 11, .inl fun _ => 0), .inl (.int, 11, .inl fun _ => 0), .inl (.int, 20480, .inl fun _ => 0), .inl (.int, 10, .inl fun _ => 0), .inl (.int, 4, .inl fun _ => 0), .inl (.int, 2048, .inl fun _ => 0), .inl (.int, 4, .inl fun _ => 0), .inl (.int, 4, .inl fun _ => 0), .inl (.int, 32768, .inl fun _ => 0), .inl (.int, 32768, .inl fun _ => 0), .inl (.int, 301, .inl fun _ => 0)] ha rfl rfl (n' := n + 52) rfl (c' := 52) rfl (s' := 582605) rfl ⟨Nat.le_of_ble_eq_true rfl, Nat.le_of_ble_eq_true rfl⟩ (pc' := 64) rfl ?_
  refine jrun_ok jC X k_MM_init_64 64 _ _ _ o_MM_init_64 ?_
  simp only [k_MM_init_64, jrun, jstep, jldi, jldl, jlda, j1, j2, jl1, jl2, jli, ja1, jbr, jald, jast, jlald, jlast, jalen, jget, jput, jfit, jdup, jdupx, jdupx2, jdup2, jcat, jset1, jset2, jkill, List.getElem?_cons_zero, List.getElem?_cons_succ, List.set_cons_zero, List.set_cons_succ, List.length_cons, List.length_nil, Nat.reduceAdd, Nat.reduceLT, Int32.reduceToNatClampNeg, true_and, and_true, and_self, reduceCtorEq, not_false_eq_true, false_and, and_false, or_false, false_or, true_or, or_true, jmk_a, jmk_put, hak, hak0]
  refine jc_na X hR (w1 := 2162) d_MM_init_70 rfl (by decide +kernel) (by decide) (by decide) 100 (by decide) (by decide) rfl [.inl (.byte, 65536, .inl fun _ => 0), .inl (.byte, 65536, .inl fun _ => 0), .inr (12, [.inl (F 0), .inl (F 1), .inr (.inr (some (.inl (n + 3)))), .inl (F 3), .inr (.inr (some (.inl (n + 4)))), .inl (F 5), .inl (F 6), .inr (.inr (some (.inl (n + 5)))), .inr (.inr (some (.inl (n + 6)))), .inr (.inr (some (.inl (n + 7)))), .inr (.inr (some (.inl (n + 8)))), .inr (.inr (some (.inl (n + 9)))), .inr (.inr (some (.inl (n + 10)))), .inr (.inr (some (.inl (n + 11)))), .inr (.inr (some (.inl (n + 12)))), .inr (.inr (some (.inl (n + 13)))), .inr (.inr (some (.inl (n + 14)))), .inr (.inr (some (.inl (n + 15)))), .inr (.inr (some (.inl (n + 16)))), .inr (.inr (some (.inl (n + 17)))), .inr (.inr (some (.inl (n + 18)))), .inr (.inr (some (.inl (n + 19)))), .inr (.inr (some (.inl (n + 20)))), .inr (.inr (some (.inl (n + 21)))), .inr (.inr (some (.inl (n + 22)))), .inl (F 25), .inl (F 26), .inl (F 27), .inl (F 28), .inl (F 29), .inr (.inr (some (.inl (n + 23)))), .inr (.inr (some (.inl (n + 24)))), .inr (.inr (some (.inl (n + 25)))), .inl (F 33), .inr (.inr (some (.inl (n + 26)))), .inr (.inr (some (.inl (n + 27)))), .inl (F 36), .inl (F 37), .inl (F 38), .inl (F 39)]), .inl (.char, 65536, .inl (A 0)), .inl (.char, 80000, .inl (A 1)), .inl (.int, 2, .inl (A 2)), .inl (.int, 602, .inl (A 3)), .inl (.int, 602, .inl (A 4)), .inl (.int, 602, .inl (A 5)), .inl (.int, 602, .inl (A 6)), .inl (.int, 602, .inl (A 7)), .inl (.int, 2408, .inl (A 8)), .inl (.int, 602, .inl (A 9)), .inl (.char, 120400, .inl (A 10)), .inl (.int, 128, .inl (A 11)), .inl (.int, 10, .inl (A 12)), .inl (.int, 2, .inl (A 13)), .inl (.int, 16, .inl (A 14)), .inl (.char, 192, .inl (A 15)), .inl (.int, 16, .inl (A 16)), .inl (.char, 1536, .inl (A 17)), .inl (.int, 2, .inl (A 18)), .inl (.int, 64, .inl (A 19)), .inl (.int, 64, .inl (A 20)), .inl (.int, 5, .inl (A 21)), .inl (.int, 2048, .inl (A 22)), .inl (.int, 301, .inl (A 23)), .inl (.char, 16, .inl (A 24)), .inr (13, [.inl 0, .inr (.inr (some (.inl (n + 29)))), .inr (.inr (some (.inl (n + 30)))), .inl 0, .inl 0, .inl (-1), .inl 0, .inl 0, .inl 0, .inr (.inr (some (.inl (n + 31)))), .inr (.inr (some (.inl (n + 32)))), .inr (.inr (some (.inl (n + 33)))), .inr (.inr (some (.inl (n + 34)))), .inr (.inr (some (.inl (n + 35)))), .inr (.inr (some (.inl (n + 36)))), .inr (.inr (some (.inl (n + 37)))), .inr (.inr (some (.inl (n + 38)))), .inr (.inr (some (.inl (n + 39)))), .inr (.inr (some (.inl (n + 40)))), .inr (.inr (some (.inl (n + 41)))), .inr (.inr (some (.inl (n + 42)))), .inr (.inr (some (.inl (n + 43)))), .inr (.inr (some (.inl (n + 44)))), .inl 0, .inl 0, .inl 0, .inl 0, .inl 0, .inr (.inr (some (.inl (n + 45)))), .inl 0, .inr (.inr (some (.inl (n + 46)))), .inl 0, .inl 0, .inr (.inr (some (.inl (n + 47)))), .inr (.inr (some (.inl (n + 48)))), .inr (.inr none), .inl 0]), .inl (.char, 65536, .inl fun _ => 0), .inl (.int, 64, .inl fun _ => 0), .inl (.int, 19520, .inl fun _ => 0), .inl (.int, 305, .inl fun _ => 0), .inl (.int, 305, .inl fun _ => 0), .inl (.int, 305, .inl fun _ => 0), .inl (.int, 305, .inl fun _ => 0), .inl (.int, 305, .inl fun _ => 0), .inl (.int, 11, .inl fun _ => 0), .inl (.int, 11, .inl fun _ => 0), .inl (.int, 11, .inl fun _ => 0), .inl (.int, 11, .inl fun _ => 0), .inl (.int, 11, .inl fun _ => 0), .inl (.int, 11, .inl fun _ => 0), .inl (.int, 20480, .inl fun _ => 0), .inl (.int, 10, .inl fun _ => 0), .inl (.int, 4, .inl fun _ => 0), .inl (.int, 2048, .inl fun _ => 0), .inl (.int, 4, .inl fun _ => 0), .inl (.int, 4, .inl fun _ => 0), .inl (.int, 32768, .inl fun _ => 0), .inl (.int, 32768, .inl fun _ => 0), .inl (.int, 301, .inl fun _ => 0), .inl (.char, 100, .inl fun _ => 0)] ha rfl rfl (n' := n + 53) rfl (c' := 53) rfl (s' := 582705) rfl ⟨Nat.le_of_ble_eq_true rfl, Nat.le_of_ble_eq_true rfl⟩ (pc' := 72) rfl ?_
  refine jrun_ok jC X k_MM_init_72 72 _ _ _ o_MM_init_72 ?_
  simp only [k_MM_init_72, jrun, jstep, jldi, jldl, jlda, j1, j2, jl1, jl2, jli, ja1, jbr, jald, jast, jlald, jlast, jalen, jget, jput, jfit, jdup, jdupx, jdupx2, jdup2, jcat, jset1, jset2, jkill, List.getElem?_cons_zero, List.getElem?_cons_succ, List.set_cons_zero, List.set_cons_succ, List.length_cons, List.length_nil, Nat.reduceAdd, Nat.reduceLT, Int32.reduceToNatClampNeg, true_and, and_true, and_self, reduceCtorEq, not_false_eq_true, false_and, and_false, or_false, false_or, true_or, or_true, jmk_a, jmk_put, hak, hak0]
  exact jk_vret X d_MM_init_75 hr (Nat.le_refl _) (Nat.le_refl _) ⟨F, A, rfl, rfl, rfl, hT⟩
end
