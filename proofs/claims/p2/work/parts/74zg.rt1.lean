section
/-! the reference's tree: chains of siblings, depths -/
noncomputable def rCn (nx : Int → Int) : Int → List Int → Prop
  | x, [] => x = -1
  | x, c :: r => x = c ∧ rCn nx (nx c) r
theorem rCn_uq {nx : Int → Int} : ∀ {L L' : List Int} {x : Int}, rCn nx x L → rCn nx x L' → (∀ c ∈ L, 0 ≤ c) → (∀ c ∈ L', 0 ≤ c) → L = L'
  | [], [], _, _, _, _, _ => rfl
  | [], c :: r, x, h1, h2, _, h4 => by
    have := h4 c List.mem_cons_self
    have e1 : x = -1 := h1
    have e2 : x = c := h2.1
    omega
  | c :: r, [], x, h1, h2, h3, _ => by
    have := h3 c List.mem_cons_self
    have e1 : x = c := h1.1
    have e2 : x = -1 := h2
    omega
  | c :: r, c' :: r', x, h1, h2, h3, h4 => by
    have e : c = c' := h1.1.symm.trans h2.1
    subst e
    rw [rCn_uq h1.2 h2.2 (fun d hd => h3 d (List.mem_cons_of_mem _ hd)) (fun d hd => h4 d (List.mem_cons_of_mem _ hd))]
theorem rCn_cg {nx nx' : Int → Int} : ∀ {L : List Int} {x : Int}, (∀ c ∈ L, nx' c = nx c) → rCn nx x L → rCn nx' x L
  | [], _, _, h => h
  | c :: r, _, he, h => ⟨h.1, by rw [he c List.mem_cons_self]; exact rCn_cg (fun d hd => he d (List.mem_cons_of_mem _ hd)) h.2⟩
theorem rNd_len : ∀ (N : Nat) (L : List Int), L.Nodup → (∀ c ∈ L, 1 ≤ c ∧ c ≤ (N : Int)) → L.length ≤ N := by
  intro N
  induction N with
  | zero =>
    intro L _ h
    cases L with
    | nil => exact Nat.le_refl _
    | cons c r => have := h c List.mem_cons_self; omega
  | succ N ih =>
    intro L hn h
    by_cases hm : ((N + 1 : Nat) : Int) ∈ L
    · have h1 : (L.erase ((N + 1 : Nat) : Int)).length = L.length - 1 := List.length_erase_of_mem hm
      have h2 : (L.erase ((N + 1 : Nat) : Int)).length ≤ N := by
        refine ih _ (hn.erase _) (fun c hc => ?_)
        have h3 := (List.Nodup.mem_erase_iff hn).mp hc
        have h4 := h c h3.2
        have h5 : ¬ c = ((N + 1 : Nat) : Int) := h3.1
        omega
      have h6 : 1 ≤ L.length := List.length_pos_of_mem hm
      omega
    · have := ih L hn (fun c hc => by
        have h4 := h c hc
        have h5 : ¬ c = ((N + 1 : Nat) : Int) := fun e => hm (e ▸ hc)
        omega)
      omega
theorem rCn_app {nx nx' : Int → Int} {N : Int} : ∀ {L : List Int} {x y : Int}, rCn nx x L → L.Nodup → (∀ c ∈ L, 0 ≤ c) → (∀ c ∈ L, ¬ nx c = -1 → nx' c = nx c) → (∀ c ∈ L, nx c = -1 → nx' c = N) → nx' N = -1 → (x = -1 → y = N) → (¬ x = -1 → y = x) → rCn nx' y (L ++ [N])
  | [], x, y, h, _, _, _, _, h3, h4, _ => by
    have e : x = -1 := h
    exact ⟨h4 e, h3⟩
  | c :: r, x, y, h, hn, hb, h1, h2, h3, h4, h5 => by
    have e : x = c := h.1
    have hc := hb c List.mem_cons_self
    have hn2 := (List.nodup_cons.mp hn).2
    refine ⟨by rw [h5 (by omega)]; exact e, ?_⟩
    refine rCn_app (x := nx c) h.2 hn2 (fun d hd => hb d (List.mem_cons_of_mem _ hd)) (fun d hd => h1 d (List.mem_cons_of_mem _ hd)) (fun d hd => h2 d (List.mem_cons_of_mem _ hd)) h3 (fun e0 => h2 c List.mem_cons_self e0) (fun e0 => ?_)
    rw [h1 c List.mem_cons_self e0]
theorem rCn_rem {nx nx' : Int → Int} {b n : Int} {B : List Int} : ∀ {A : List Int} {x : Int}, rCn nx x (A ++ b :: n :: B) → (∀ c ∈ A, nx' c = nx c) → (nx' b = nx n) → (∀ c ∈ B, nx' c = nx c) → rCn nx' x (A ++ b :: B)
  | [], x, h, _, h2, h3 => ⟨h.1, by rw [h2]; exact rCn_cg h3 h.2.2⟩
  | c :: A, x, h, h1, h2, h3 => ⟨h.1, by rw [h1 c List.mem_cons_self]; exact rCn_rem h.2 (fun d hd => h1 d (List.mem_cons_of_mem _ hd)) h2 h3⟩
/-- what is counted on the way up -/
noncomputable def rRec {α : Type} (pa : Int → Int) (z : α) (f : Int → α → α) : Nat → Int → α
  | 0, _ => z
  | n + 1, k => if k ≤ 0 then z else f k (rRec pa z f n (pa k))
theorem rRec_f {α : Type} {pa : Int → Int} {C : Int} (h : ∀ k, 1 ≤ k → k ≤ C → 0 ≤ pa k ∧ pa k < k) {z : α} {f : Int → α → α} : ∀ (n m : Nat) (k : Int), k ≤ C → k ≤ n → k ≤ m → rRec pa z f n k = rRec pa z f m k
  | 0, 0, _, _, _, _ => rfl
  | 0, m + 1, k, _, h1, _ => by
    show z = if k ≤ 0 then z else _
    rw [if_pos (by omega)]
  | n + 1, 0, k, _, _, h2 => by
    show (if k ≤ 0 then z else _) = z
    rw [if_pos (by omega)]
  | n + 1, m + 1, k, hC, h1, h2 => by
    show (if k ≤ 0 then z else f k (rRec pa z f n (pa k))) = if k ≤ 0 then z else f k (rRec pa z f m (pa k))
    by_cases c : k ≤ 0
    · rw [if_pos c, if_pos c]
    · have := h k (by omega) hC
      rw [if_neg c, if_neg c, rRec_f h n m (pa k) (by omega) (by omega) (by omega)]
theorem rRec_s {α : Type} {pa : Int → Int} {C : Int} (hC : C ≤ 300) (h : ∀ k, 1 ≤ k → k ≤ C → 0 ≤ pa k ∧ pa k < k) {z : α} {f : Int → α → α} {k : Int} (k0 : 1 ≤ k) (k1 : k ≤ C) : rRec pa z f 301 k = f k (rRec pa z f 301 (pa k)) := by
  have := h k k0 k1
  show (if k ≤ 0 then z else f k (rRec pa z f 300 (pa k))) = _
  rw [if_neg (by omega), rRec_f h 300 301 (pa k) (by omega) (by omega) (by omega)]
theorem rRec_0 {α : Type} {pa : Int → Int} {z : α} {f : Int → α → α} : rRec pa z f 301 0 = z := by
  show (if (0 : Int) ≤ 0 then z else _) = z
  rw [if_pos (by omega)]
theorem rRec_cg {α : Type} {pa pa' : Int → Int} {C : Int} (h : ∀ k, 1 ≤ k → k ≤ C → 0 ≤ pa k ∧ pa k < k) {z : α} {f f' : Int → α → α} (hp : ∀ k, 1 ≤ k → k ≤ C → pa' k = pa k) (hf : ∀ k, 1 ≤ k → k ≤ C → f' k = f k) : ∀ (n : Nat) (k : Int), k ≤ C → rRec pa' z f' n k = rRec pa z f n k
  | 0, _, _ => rfl
  | n + 1, k, hk => by
    show (if k ≤ 0 then z else f' k (rRec pa' z f' n (pa' k))) = if k ≤ 0 then z else f k (rRec pa z f n (pa k))
    by_cases c : k ≤ 0
    · rw [if_pos c, if_pos c]
    · have := h k (by omega) hk
      rw [if_neg c, if_neg c, hp k (by omega) hk, hf k (by omega) hk, rRec_cg h hp hf n (pa k) (by omega)]
theorem rInd {pa : Int → Int} {C : Int} (h : ∀ k, 1 ≤ k → k ≤ C → 0 ≤ pa k ∧ pa k < k) {P : Int → Prop} (h0 : P 0) (hs : ∀ k, 1 ≤ k → k ≤ C → P (pa k) → P k) : ∀ k, 0 ≤ k → k ≤ C → P k := by
  have key : ∀ (m : Nat) (k : Int), 0 ≤ k → k ≤ m → k ≤ C → P k := by
    intro m
    induction m with
    | zero =>
      intro k k0 k1 _
      rw [show k = 0 by omega]
      exact h0
    | succ m ih =>
      intro k k0 k1 k2
      by_cases c : k = 0
      · rw [c]; exact h0
      · have := h k (by omega) k2
        exact hs k (by omega) k2 (ih (pa k) (by omega) (by omega) (by omega))
  intro k k0 k1
  exact key k.toNat k k0 (by omega) k1
/-- a tree: parents, moves, first children, next siblings, the position and the number at the root -/
abbrev rY : Type := (Int → Int) × (Int → Int) × (Int → Int) × (Int → Int) × rQ × Int
noncomputable abbrev rPo3 (pa mo : Int → Int) (q0 : rQ) (k : Int) : rQ := rRec pa q0 (fun k q => rMk q (mo k)) 301 k
noncomputable abbrev rPo (y : rY) (k : Int) : rQ := rPo3 y.1 y.2.1 y.2.2.2.2.1 k
noncomputable def rTc (C : Int) (pa ch nx : Int → Int) : Prop := ∃ L : Int → List Int, ∀ k, 0 ≤ k → k ≤ C → (L k).Nodup ∧ rCn nx (ch k) (L k) ∧ (∀ c, c ∈ L k ↔ 1 ≤ c ∧ c ≤ C ∧ pa c = k)
noncomputable def rPrs (C : Int) (pa : Int → Int) : Prop := ∀ k, 1 ≤ k → k ≤ C → 0 ≤ pa k ∧ pa k < k
noncomputable def rTr (C : Int) (y : rY) : Prop := (0 ≤ C ∧ C ≤ 300 ∧ 0 ≤ y.2.2.2.2.2 ∧ y.2.2.2.2.2 ≤ 999 ∧ rGd y.2.2.2.2.1 ∧ 0 ≤ y.2.2.2.2.1.2.2.1 ∧ y.2.2.2.2.1.2.2.1 ≤ 15) ∧ rPrs C y.1 ∧ (∀ k, 1 ≤ k → k ≤ C → rLm (rPo y (y.1 k)) (y.2.1 k) ∧ rGd (rPo y k)) ∧ rTc C y.1 y.2.2.1 y.2.2.2.1
theorem rPo_s {C : Int} {y : rY} (h : rTr C y) {k : Int} (k0 : 1 ≤ k) (k1 : k ≤ C) : rPo y k = rMk (rPo y (y.1 k)) (y.2.1 k) := rRec_s h.1.2.1 h.2.1 k0 k1
theorem rPo_0 {y : rY} : rPo y 0 = y.2.2.2.2.1 := rRec_0
theorem rPo_g {C : Int} {y : rY} (h : rTr C y) {k : Int} (k0 : 0 ≤ k) (k1 : k ≤ C) : rGd (rPo y k) := by
  by_cases c : k = 0
  · rw [c, rPo_0]; exact h.1.2.2.2.2.1
  · exact (h.2.2.1 k (by omega) k1).2
theorem rTr_L {C : Int} {y : rY} (h : rTr C y) {k : Int} (k0 : 0 ≤ k) (k1 : k ≤ C) : ∃ L : List Int, L.Nodup ∧ rCn y.2.2.2.1 (y.2.2.1 k) L ∧ (∀ c, c ∈ L ↔ 1 ≤ c ∧ c ≤ C ∧ y.1 c = k) ∧ L.length ≤ 300 := by
  obtain ⟨⟨c0, c1, -, -, -, -, -⟩, -, -, L, h2⟩ := h
  obtain ⟨n1, n2, n3⟩ := h2 k k0 k1
  have h3 := rNd_len C.toNat (L k) n1 (fun c hc => by have := (n3 c).mp hc; omega)
  exact ⟨L k, n1, n2, n3, by omega⟩
/-- rows that are the same on the nodes there are -/
theorem rTr_cg {C : Int} {y y' : rY} (h : rTr C y) (e1 : ∀ k, 0 ≤ k → k ≤ C → y'.1 k = y.1 k) (e2 : ∀ k, 0 ≤ k → k ≤ C → y'.2.1 k = y.2.1 k) (e3 : ∀ k, 0 ≤ k → k ≤ C → y'.2.2.1 k = y.2.2.1 k) (e4 : ∀ k, 0 ≤ k → k ≤ C → y'.2.2.2.1 k = y.2.2.2.1 k) (e5 : y'.2.2.2.2 = y.2.2.2.2) : rTr C y' ∧ (∀ k, k ≤ C → rPo y' k = rPo y k) := by
  obtain ⟨h1, h2, h3, L, h4⟩ := h
  have hp : ∀ k, k ≤ C → rPo y' k = rPo y k := fun k hk => by
    unfold rPo
    rw [e5]
    exact rRec_cg h2 (fun k k0 k1 => e1 k (by omega) k1) (fun k k0 k1 => by funext q; rw [e2 k (by omega) k1]) 301 k hk
  refine ⟨⟨by rw [e5]; exact h1, fun k k0 k1 => by rw [e1 k (by omega) k1]; exact h2 k k0 k1, fun k k0 k1 => ?_, L, fun k k0 k1 => ?_⟩, hp⟩
  · have := h2 k k0 k1
    rw [e1 k (by omega) k1, e2 k (by omega) k1, hp _ (by omega), hp k k1]
    exact h3 k k0 k1
  · obtain ⟨m1, m2, m3⟩ := h4 k k0 k1
    refine ⟨m1, ?_, fun c => ?_⟩
    · rw [e3 k k0 k1]
      exact rCn_cg (fun c hc => by have := (m3 c).mp hc; exact e4 c (by omega) (by omega)) m2
    · rw [m3 c]
      constructor
      · rintro ⟨a, b, c2⟩
        exact ⟨a, b, by rw [e1 c (by omega) b]; exact c2⟩
      · rintro ⟨a, b, c2⟩
        exact ⟨a, b, by rw [← e1 c (by omega) b]; exact c2⟩
/-- a node more -/
theorem rTr_ap {C nd mv : Int} {y y' : rY} (h : rTr C y) (hC : C ≤ 299) (n0 : 0 ≤ nd) (n1 : nd ≤ C) (hl : rLm (rPo y nd) mv) (hg : rGd (rMk (rPo y nd) mv)) (e1 : ∀ k, 0 ≤ k → k ≤ C → y'.1 k = y.1 k) (e2 : ∀ k, 0 ≤ k → k ≤ C → y'.2.1 k = y.2.1 k) (e5 : y'.2.2.2.2 = y.2.2.2.2) (f1 : y'.1 (C + 1) = nd) (f2 : y'.2.1 (C + 1) = mv) (f3 : y'.2.2.1 (C + 1) = -1) (f4 : y'.2.2.2.1 (C + 1) = -1) (e3 : ∀ k, 0 ≤ k → k ≤ C → ¬ k = nd → y'.2.2.1 k = y.2.2.1 k) (g3 : y'.2.2.1 nd = if y.2.2.1 nd = -1 then C + 1 else y.2.2.1 nd) (e4 : ∀ c, 0 ≤ c → c ≤ C → y'.2.2.2.1 c = if (y.1 c = nd ∧ 1 ≤ c) ∧ y.2.2.2.1 c = -1 then C + 1 else y.2.2.2.1 c) : rTr (C + 1) y' := by
  have hY := h
  obtain ⟨h1, h2, h3, L, h4⟩ := h
  have hp' : rPrs (C + 1) y'.1 := fun k k0 k1 => by
    by_cases c : k = C + 1
    · rw [c, f1]; omega
    · rw [e1 k (by omega) (by omega)]; exact h2 k k0 (by omega)
  have hpo : ∀ k, k ≤ C → rPo y' k = rPo y k := fun k hk => by
    unfold rPo
    rw [e5]
    exact rRec_cg h2 (fun k k0 k1 => e1 k (by omega) k1) (fun k k0 k1 => by funext q; rw [e2 k (by omega) k1]) 301 k hk
  have hpk : rPo y' (C + 1) = rMk (rPo y nd) mv := by
    have h9 : rPo y' (C + 1) = rMk (rPo y' (y'.1 (C + 1))) (y'.2.1 (C + 1)) := rRec_s (C := C + 1) (by omega) hp' (by omega) (by omega)
    rw [h9, f1, f2, hpo nd n1]
  refine ⟨⟨by omega, by omega, by rw [e5]; exact h1.2.2.1, by rw [e5]; exact h1.2.2.2.1, by rw [e5]; exact h1.2.2.2.2⟩, hp', fun k k0 k1 => ?_, fun k => if k = C + 1 then [] else if k = nd then L nd ++ [C + 1] else L k, fun k k0 k1 => ?_⟩
  · by_cases c : k = C + 1
    · rw [c, f1, f2, hpo nd n1, hpk]
      exact ⟨hl, hg⟩
    · have := h2 k k0 (by omega)
      rw [e1 k (by omega) (by omega), e2 k (by omega) (by omega), hpo _ (by omega), hpo k (by omega)]
      exact h3 k k0 (by omega)
  · dsimp only
    by_cases c : k = C + 1
    · rw [if_pos c]
      refine ⟨List.nodup_nil, by rw [c, f3]; exact rfl, fun d => ⟨fun hd9 => (by cases hd9), fun hd9 => ?_⟩⟩
      exfalso
      have := hp' d hd9.1 hd9.2.1
      omega
    · rw [if_neg c]
      obtain ⟨m1, m2, m3⟩ := h4 k k0 (by omega)
      by_cases c2 : k = nd
      · rw [if_pos c2]
        rw [c2] at m1 m2 m3 ⊢
        have hn : ¬ (C + 1) ∈ L nd := fun hm => by have := (m3 _).mp hm; omega
        refine ⟨List.nodup_append.mpr ⟨m1, List.nodup_cons.mpr ⟨List.not_mem_nil, List.nodup_nil⟩, fun a ha b hb e => ?_⟩, ?_, fun d => ?_⟩
        · rw [List.mem_singleton.mp hb] at e
          exact hn (e ▸ ha)
        · refine rCn_app (x := y.2.2.1 nd) m2 m1 (fun d hd9 => by have := (m3 d).mp hd9; omega) (fun d hd9 hz => ?_) (fun d hd9 hz => ?_) f4 (fun e => by rw [g3, if_pos e]) (fun e => by rw [g3, if_neg e])
          · have := (m3 d).mp hd9
            rw [e4 d (by omega) (by omega), if_neg (fun h9 => hz h9.2)]
          · have := (m3 d).mp hd9
            rw [e4 d (by omega) (by omega), if_pos ⟨⟨this.2.2, this.1⟩, hz⟩]
        · rw [List.mem_append, m3 d, List.mem_singleton]
          constructor
          · rintro (⟨a, b, d9⟩ | d9)
            · exact ⟨a, by omega, by rw [e1 d (by omega) b]; exact d9⟩
            · rw [d9, f1]; omega
          · rintro ⟨a, b, d9⟩
            by_cases c3 : d = C + 1
            · exact Or.inr c3
            · rw [e1 d (by omega) (by omega)] at d9
              exact Or.inl ⟨a, by omega, d9⟩
      · rw [if_neg c2]
        refine ⟨m1, ?_, fun d => ?_⟩
        · rw [e3 k k0 (by omega) c2]
          refine rCn_cg (fun d hd9 => ?_) m2
          have := (m3 d).mp hd9
          rw [e4 d (by omega) (by omega), if_neg (fun h9 => c2 (by rw [← this.2.2]; exact h9.1.1))]
        · rw [m3 d]
          constructor
          · rintro ⟨a, b, d9⟩
            exact ⟨a, by omega, by rw [e1 d (by omega) b]; exact d9⟩
          · rintro ⟨a, b, d9⟩
            by_cases c3 : d = C + 1
            · rw [c3, f1] at d9
              exact absurd d9.symm c2
            · rw [e1 d (by omega) (by omega)] at d9
              exact ⟨a, by omega, d9⟩
theorem rCn_nl {nx : Int → Int} {c : Int} {B : List Int} : ∀ {A : List Int} {x : Int}, rCn nx x (A ++ c :: B) → nx c = -1 → (∀ d ∈ B, 0 ≤ d) → B = []
  | [], x, h, hz, hb => by
    match B, h.2, hb with
    | [], _, _ => rfl
    | d :: r, h2, hb =>
      have e : nx c = d := h2.1
      have := hb d List.mem_cons_self
      omega
  | _ :: A, x, h, hz, hb => rCn_nl (A := A) h.2 hz hb
theorem rCn_mv {nx : Int → Int} {c : Int} {B : List Int} : ∀ {A : List Int} {x : Int}, rCn nx x (A ++ c :: B) → rCn nx (nx c) B
  | [], _, h => h.2
  | _ :: A, _, h => rCn_mv (A := A) h.2
/-- the chain's last one alone has none behind it -/
theorem rCn_la {nx : Int → Int} {l : Int} {A : List Int} {x : Int} (h : rCn nx x (A ++ [l])) (hb : ∀ d ∈ A ++ [l], 0 ≤ d) {c : Int} (hc : c ∈ A ++ [l]) (hz : nx c = -1) : c = l := by
  rcases List.mem_append.mp hc with h1 | h1
  · obtain ⟨A1, A2, rfl⟩ := List.append_of_mem h1
    have h2 : rCn nx x (A1 ++ c :: (A2 ++ [l])) := by
      rw [List.append_assoc, List.cons_append] at h
      exact h
    have h3 := rCn_nl h2 hz (fun d hd => hb d (by
      rw [List.append_assoc, List.cons_append]
      exact List.mem_append_right _ (List.mem_cons_of_mem _ hd)))
    exact absurd h3 (by simp)
  · exact List.mem_singleton.mp h1
/-- another one goes on -/
theorem rTr_ld {C h b : Int} {A B : List Int} {y y' : rY} (hT : rTr C y) (h0 : 1 ≤ h) (h1 : h ≤ C) (hf : ¬ y.2.2.1 (y.1 h) = h) (hL : rCn y.2.2.2.1 (y.2.2.1 (y.1 h)) (A ++ b :: h :: B)) (hB : ∀ c ∈ A ++ b :: h :: B, 0 ≤ c) (e1 : y'.1 = y.1) (e2 : y'.2.1 = y.2.1) (e5 : y'.2.2.2.2 = y.2.2.2.2) (e3 : ∀ k, 0 ≤ k → k ≤ C → y'.2.2.1 k = if k = y.1 h then h else y.2.2.1 k) (e4 : ∀ k, 0 ≤ k → k ≤ C → y'.2.2.2.1 k = if k = h then y.2.2.1 (y.1 h) else if k = b then y.2.2.2.1 h else y.2.2.2.1 k) : rTr C y' := by
  have hT2 := hT
  obtain ⟨t1, t2, t3, L, t4⟩ := hT
  have hu := t2 h h0 h1
  obtain ⟨m1, m2, m3⟩ := t4 (y.1 h) (by omega) (by omega)
  have eL : L (y.1 h) = A ++ b :: h :: B := rCn_uq m2 hL (fun c hc => by have := (m3 c).mp hc; omega) hB
  have hp : ∀ k, rPo y' k = rPo y k := fun k => by unfold rPo; rw [e1, e2, e5]
  rw [eL] at m1 m3
  have hpm : (A ++ b :: h :: B).Perm (h :: (A ++ b :: B)) := (List.Perm.append_left A (List.Perm.swap h b B)).trans List.perm_middle
  refine ⟨by rw [e5]; exact t1, by rw [e1]; exact t2, fun k k0 k1 => by rw [e1, e2, hp, hp]; exact t3 k k0 k1, fun k => if k = y.1 h then h :: (A ++ b :: B) else L k, fun k k0 k1 => ?_⟩
  dsimp only
  by_cases c : k = y.1 h
  · rw [if_pos c]
    have nd := (hpm.nodup_iff).mp m1
    have nd2 := List.nodup_cons.mp nd
    refine ⟨nd, ?_, fun d => ?_⟩
    · rw [e3 k k0 k1, if_pos c]
      refine ⟨rfl, ?_⟩
      rw [e4 h (by omega) h1, if_pos rfl]
      have hmem : ∀ d, d ∈ A ++ b :: h :: B → 0 ≤ d ∧ d ≤ C := fun d hd9 => by have := (m3 d).mp hd9; omega
      have nb : ¬ b ∈ A ∧ ¬ b ∈ B := by
        have h8 := (List.perm_middle (a := b) (l₁ := A) (l₂ := B)).nodup_iff.mp nd2.2
        have h7 := (List.nodup_cons.mp h8).1
        exact ⟨fun h6 => h7 (List.mem_append_left _ h6), fun h6 => h7 (List.mem_append_right _ h6)⟩
      have nh : ∀ d ∈ A ++ b :: B, ¬ d = h := fun d hd9 e => nd2.1 (e ▸ hd9)
      refine rCn_rem hL (fun d hd9 => ?_) ?_ (fun d hd9 => ?_)
      · have hm := hmem d (List.mem_append_left _ hd9)
        rw [e4 d hm.1 hm.2, if_neg (nh d (List.mem_append_left _ hd9)), if_neg (fun (e : d = b) => nb.1 (e ▸ hd9))]
      · have hm := hmem b (List.mem_append_right _ List.mem_cons_self)
        rw [e4 b hm.1 hm.2, if_neg (nh b (List.mem_append_right _ List.mem_cons_self)), if_pos rfl]
      · have hm := hmem d (List.mem_append_right _ (List.mem_cons_of_mem _ (List.mem_cons_of_mem _ hd9)))
        rw [e4 d hm.1 hm.2, if_neg (nh d (List.mem_append_right _ (List.mem_cons_of_mem _ hd9))), if_neg (fun (e : d = b) => nb.2 (e ▸ hd9))]
    · rw [← hpm.mem_iff, m3 d, e1, c]
  · rw [if_neg c]
    obtain ⟨q1, q2, q3⟩ := t4 k k0 k1
    refine ⟨q1, ?_, fun d => by rw [q3 d, e1]⟩
    rw [e3 k k0 k1, if_neg c]
    refine rCn_cg (fun d hd9 => ?_) q2
    have h7 := (q3 d).mp hd9
    have h8 : ¬ d = h := fun e => c (by rw [← h7.2.2, e])
    have h9 : ¬ d = b := fun e => c (by rw [← h7.2.2, e]; exact ((m3 b).mp (List.mem_append_right _ List.mem_cons_self)).2.2)
    rw [e4 d (by omega) h7.2.1, if_neg h8, if_neg h9]
/-- the way up -/
noncomputable def rUa (pa : Int → Int) : Nat → Int → Int
  | 0, k => k
  | j + 1, k => pa (rUa pa j k)
/-! the tree's rows -/
noncomputable def rSc (g : Nat → Int32) (o : Int) : Int → Int := fun k => (g (301 * o + k).toNat).toInt
noncomputable def rS0 (g5 g6 : Nat → Int32) (o : Int) : rQ := (fun i => if 0 ≤ i ∧ i ≤ 63 then (g5 (64 * o + i).toNat).toInt else 0, (g6 (5 * o).toNat).toInt, (g6 (5 * o + 1).toNat).toInt, (g6 (5 * o + 2).toNat).toInt)
noncomputable def rRy9 (K : Nat → Nat) (n : Nat) (σ : Nat → jcell) (a f kr : Nat) (o : Int) (fn : Int → Int) : Prop := ∃ g, rRo K n σ a 62 f kr 602 g ∧ fn = rSc g o
noncomputable def rSt9 (K : Nat → Nat) (n : Nat) (σ : Nat → jcell) (a : Nat) (o : Int) (q : rQ) (z : Int) : Prop := ∃ g5 g6, rRo K n σ a 62 16 74 128 g5 ∧ rRo K n σ a 62 17 75 10 g6 ∧ q = rS0 g5 g6 o ∧ z = (g6 (5 * o + 4).toNat).toInt
noncomputable def rTy (K : Nat → Nat) (n : Nat) (σ : Nat → jcell) (a : Nat) (o : Int) (y : rY) : Prop := rRy9 K n σ a 8 66 o y.1 ∧ rRy9 K n σ a 9 67 o y.2.1 ∧ rRy9 K n σ a 10 68 o y.2.2.1 ∧ rRy9 K n σ a 11 69 o y.2.2.2.1 ∧ rSt9 K n σ a o y.2.2.2.2.1 y.2.2.2.2.2
noncomputable def rCt9 (K : Nat → Nat) (n : Nat) (σ : Nat → jcell) (a : Nat) (o C : Int) : Prop := ∃ g, rRo K n σ a 62 7 65 2 g ∧ (g o.toNat).toInt = C
noncomputable def rTY (K : Nat → Nat) (n : Nat) (σ : Nat → jcell) (a : Nat) (o C : Int) (y : rY) : Prop := rTy K n σ a o y ∧ rCt9 K n σ a o C ∧ rTr C y
theorem rRy9_u {K : Nat → Nat} {n : Nat} {σ : Nat → jcell} {a f kr : Nat} {o : Int} {u v : Int → Int} (h : rRy9 K n σ a f kr o u) (h' : rRy9 K n σ a f kr o v) : u = v := by
  obtain ⟨g, h1, rfl⟩ := h
  obtain ⟨g', h2, rfl⟩ := h'
  rw [rRo_u h1 h2]
theorem rSt9_u {K : Nat → Nat} {n : Nat} {σ : Nat → jcell} {a : Nat} {o z z' : Int} {u v : rQ} (h : rSt9 K n σ a o u z) (h' : rSt9 K n σ a o v z') : u = v ∧ z = z' := by
  obtain ⟨g, g1, h1, h2, rfl, rfl⟩ := h
  obtain ⟨g', g1', h3, h4, rfl, rfl⟩ := h'
  rw [rRo_u h1 h3, rRo_u h2 h4]
  exact ⟨rfl, rfl⟩
theorem rTy_u {K : Nat → Nat} {n : Nat} {σ : Nat → jcell} {a : Nat} {o : Int} {u v : rY} (h : rTy K n σ a o u) (h' : rTy K n σ a o v) : u = v := by
  obtain ⟨u1, u2, u3, u4, u5, u6⟩ := u
  obtain ⟨v1, v2, v3, v4, v5, v6⟩ := v
  obtain ⟨a1, a2, a3, a4, a5⟩ := h
  obtain ⟨b1, b2, b3, b4, b5⟩ := h'
  dsimp only at a1 a2 a3 a4 a5 b1 b2 b3 b4 b5
  obtain ⟨e5, e6⟩ := rSt9_u a5 b5
  rw [rRy9_u a1 b1, rRy9_u a2 b2, rRy9_u a3 b3, rRy9_u a4 b4, e5, e6]
theorem rTY_u {K : Nat → Nat} {n : Nat} {σ : Nat → jcell} {a : Nat} {o C D : Int} {u v : rY} (h : rTY K n σ a o C u) (h' : rTY K n σ a o D v) : C = D ∧ u = v := by
  obtain ⟨h1, ⟨g, r1, e1⟩, -⟩ := h
  obtain ⟨h2, ⟨g', r2, e2⟩, -⟩ := h'
  rw [rRo_u r1 r2] at e1
  exact ⟨by rw [← e1, ← e2], rTy_u h1 h2⟩
theorem rSc_c {K : Nat → Nat} {n : Nat} {σ : Nat → jcell} {a b c m f kr i : Nat} {o k : Int} {fn : Int → Int} {fs : List jv} {ty : FieldType} {gg : Nat → Int32} {v : Int32} (h : rRy9 K n σ a f kr o fn) (e1 : σ a = .inr (c, fs)) (e2 : fs[f]? = some (rR b)) (e3 : σ b = .inl (ty, m, .inl gg)) (ev : v = gg i) (ei : (i : Int) = 301 * o + k) : fn k = v.toInt := by
  obtain ⟨g, h1, rfl⟩ := h
  have e := rRo_c (i := i) h1 e1 e2 e3 ev
  show (g (301 * o + k).toNat).toInt = v.toInt
  rw [show (301 * o + k).toNat = i by omega]
  exact e
theorem rRy9_st {K : Nat → Nat} {n : Nat} {σ σ' : Nat → jcell} {vs : List jv} {d : List aDe} (h : ∀ a, a < n → ∀ q ∈ d, q.1 = K a → aSm vs q (σ a) (σ' a)) {a f kr : Nat} {F : List Nat} {z : Option aF} {o : Int} {fn : Int → Int} (hq : (62, F, z) ∈ d) (hf : f ∈ F) (hr : (kr, [], none) ∈ d) (ho : rRy9 K n σ a f kr o fn) : rRy9 K n σ' a f kr o fn := by
  obtain ⟨g, h1, e⟩ := ho
  exact ⟨g, rRo_st h hq hf hr h1, e⟩
theorem rRy9_sb {K : Nat → Nat} {n : Nat} {σ σ' : Nat → jcell} {vs : List jv} {d : List aDe} (h : ∀ a, a < n → ∀ q ∈ d, q.1 = K a → aSm vs q (σ a) (σ' a)) {a f kr : Nat} {F : List Nat} {z : Option aF} {fo : aF} {o b : Int} {fn : Int → Int} (hq : (62, F, z) ∈ d) (hf : f ∈ F) (hr : (kr, [], some fo) ∈ d) (hb : ∀ x, aVa vs fo x → x = b) (ho : rRy9 K n σ a f kr o fn) : ∃ fn', rRy9 K n σ' a f kr o fn' ∧ ∀ k : Int, 0 ≤ 301 * o + k → 301 * o + k < b → fn' k = fn k := by
  obtain ⟨g, h1, rfl⟩ := ho
  obtain ⟨g', h2, h3⟩ := rRo_sb h hq hf hr hb h1
  refine ⟨_, ⟨g', h2, rfl⟩, fun k k0 k1 => ?_⟩
  show (g' (301 * o + k).toNat).toInt = (g (301 * o + k).toNat).toInt
  rw [h3 _ (by omega)]
theorem rSt9_st {K : Nat → Nat} {n : Nat} {σ σ' : Nat → jcell} {vs : List jv} {d : List aDe} (h : ∀ a, a < n → ∀ q ∈ d, q.1 = K a → aSm vs q (σ a) (σ' a)) {a : Nat} {F : List Nat} {z : Option aF} {o y : Int} {q : rQ} (hq : (62, F, z) ∈ d) (hf : 16 ∈ F) (hf2 : 17 ∈ F) (hr : (74, [], none) ∈ d) (hr2 : (75, [], none) ∈ d) (ho : rSt9 K n σ a o q y) : rSt9 K n σ' a o q y := by
  obtain ⟨g, g', h1, h2, e⟩ := ho
  exact ⟨g, g', rRo_st h hq hf hr h1, rRo_st h hq hf2 hr2 h2, e⟩
theorem rTy_st {K : Nat → Nat} {n : Nat} {σ σ' : Nat → jcell} {vs : List jv} {d : List aDe} (h : ∀ a, a < n → ∀ q ∈ d, q.1 = K a → aSm vs q (σ a) (σ' a)) {a : Nat} {F : List Nat} {z : Option aF} {o : Int} {y : rY} (hq : (62, F, z) ∈ d) (hf : 8 ∈ F ∧ 9 ∈ F ∧ 10 ∈ F ∧ 11 ∈ F ∧ 16 ∈ F ∧ 17 ∈ F) (r1 : (66, [], none) ∈ d) (r2 : (67, [], none) ∈ d) (r3 : (68, [], none) ∈ d) (r4 : (69, [], none) ∈ d) (r5 : (74, [], none) ∈ d) (r6 : (75, [], none) ∈ d) (ho : rTy K n σ a o y) : rTy K n σ' a o y :=
  ⟨rRy9_st h hq hf.1 r1 ho.1, rRy9_st h hq hf.2.1 r2 ho.2.1, rRy9_st h hq hf.2.2.1 r3 ho.2.2.1, rRy9_st h hq hf.2.2.2.1 r4 ho.2.2.2.1, rSt9_st h hq hf.2.2.2.2.1 hf.2.2.2.2.2 r5 r6 ho.2.2.2.2⟩
theorem rTY_st {K : Nat → Nat} {n : Nat} {σ σ' : Nat → jcell} {vs : List jv} {d : List aDe} (h : ∀ a, a < n → ∀ q ∈ d, q.1 = K a → aSm vs q (σ a) (σ' a)) {a : Nat} {F : List Nat} {z : Option aF} {o C : Int} {y : rY} (hq : (62, F, z) ∈ d) (hf : 8 ∈ F ∧ 9 ∈ F ∧ 10 ∈ F ∧ 11 ∈ F ∧ 16 ∈ F ∧ 17 ∈ F) (h7 : 7 ∈ F) (r0 : (65, [], none) ∈ d) (r1 : (66, [], none) ∈ d) (r2 : (67, [], none) ∈ d) (r3 : (68, [], none) ∈ d) (r4 : (69, [], none) ∈ d) (r5 : (74, [], none) ∈ d) (r6 : (75, [], none) ∈ d) (ho : rTY K n σ a o C y) : rTY K n σ' a o C y := by
  obtain ⟨h1, ⟨g, r, e⟩, h2⟩ := ho
  exact ⟨rTy_st h hq hf r1 r2 r3 r4 r5 r6 h1, ⟨g, rRo_st h hq h7 r0 r, e⟩, h2⟩
noncomputable def rPth (K : Nat → Nat) (n : Nat) (σ : Nat → jcell) (a : Nat) (y : rY) (nd b : Int) : Prop := ∃ g, rRo K n σ a 62 34 86 301 g ∧ ∀ i, 0 ≤ i → i < b → (g i.toNat).toInt = rUa y.1 i.toNat nd ∧ 1 ≤ rUa y.1 i.toNat nd
noncomputable def rSL9 (K : Nat → Nat) (n : Nat) (σ : Nat → jcell) (a : Nat) (o nd : Int) : Prop := ∃ (pa mo : Int → Int) (q0 : rQ) (z : Int) (c v : Int32), rRy9 K n σ a 8 66 o pa ∧ rRy9 K n σ a 9 67 o mo ∧ rSt9 K n σ a o q0 z ∧ rTX K n σ a (rPo3 pa mo q0 nd) ∧ rGd (rPo3 pa mo q0 nd) ∧ (rOb K n σ a 62 33 (rI c) ∧ c.toInt ≤ 2048 ∧ rTL K n σ a c.toInt (rPo3 pa mo q0 nd)) ∧ rOb K n σ a 62 29 (rI v) ∧ 0 ≤ v.toInt ∧ v.toInt ≤ 1298
noncomputable def rUs (k : Nat) : Int × Int := ([(0, 4), (8, 1), (48, 9), (56, 12), (1, 2), (9, 1), (49, 9), (57, 10), (2, 3), (10, 1), (50, 9), (58, 11), (3, 5), (11, 1), (51, 9), (59, 13), (4, 6), (12, 1), (52, 9), (60, 14), (5, 3), (13, 1), (53, 9), (61, 11), (6, 2), (14, 1), (54, 9), (62, 10), (7, 4), (15, 1), (55, 9), (63, 12)] : List (Int × Int)).getD k (0, 0)
noncomputable def rIp : Nat → Int → Int
  | 0 => fun _ => 0
  | k + 1 => rUp (rIp k) (rUs k).1 (rUs k).2
noncomputable def rVl (K : Nat → Nat) (n : Nat) (σ : Nat → jcell) (a : Nat) (g : Nat → Int32) : Prop := ∃ r, rOb K n σ a 62 22 (rR r) ∧ r < n ∧ K r = 80 ∧ σ r = .inl (.char, 1536, .inl g)
theorem aR_sn {K : Nat → Nat} {n : Nat} {es : List aE} {ρ : List jv} {t : aT} {v : jv} (h : aR K n es ρ) (hv : aG K n t v) : aR K n (es ++ [(t, none)]) (ρ ++ [v]) := by
  obtain ⟨h1, h2⟩ := h
  refine ⟨by rw [List.length_append, List.length_append, h1]; rfl, fun i e w he hw => ?_⟩
  by_cases c : i < es.length
  · rw [List.getElem?_append_left c] at he
    rw [List.getElem?_append_left (by omega)] at hw
    obtain ⟨a1, a2⟩ := h2 i e w he hw
    exact ⟨a1, aRl.mo aX_app a2⟩
  · have hi : i = es.length := by
      have := (List.getElem?_eq_some_iff.mp he).1
      rw [List.length_append] at this
      have h9 : [(t, (none : Option aF))].length = 1 := rfl
      omega
    subst hi
    rw [List.getElem?_append_right (Nat.le_refl _), Nat.sub_self] at he
    rw [← h1, List.getElem?_append_right (Nat.le_refl _), Nat.sub_self] at hw
    cases he
    cases hw
    exact ⟨hv, trivial⟩
theorem aGho_n1 {P : Type} {F : aFt P} {T : List aKd} {K : Nat → Nat} {n : Nat} {JX : (Nat → jcell) → Prop} {G : aCon} {b : Int × Int} (h1 : G.2.2.2.2.1.1 = none) (h2 : G.2.2.2.2.1.2.1 = [.inl b]) (h : ∀ (p : P) (σ : Nat → jcell) (ρ : List jv), aH T K n σ → JX σ → aR K n G.2.2.2.1.1 ρ → aMm F p ρ σ G.2.2.2.1.2 → ∃ (p' : P) (x : Int32), (G.2.2.2.2.2.1.1.isEmpty = true → p' = p) ∧ b.1 ≤ x.toInt ∧ x.toInt ≤ b.2 ∧ aMm F p' (ρ ++ [.inl x]) σ G.2.2.2.2.1.2.2.1 ∧ ∃ A ∈ G.2.2.2.2.1.2.2.2, ∀ f ∈ A, aHd (ρ ++ [.inl x]) f) : aGho F T K n JX G := by
  intro p σ ρ hH hX hA hM
  obtain ⟨p', x, f1, x0, x1, f2, A, f3, f4⟩ := h p σ ρ hH hX hA hM
  have e2 : aPe G = G.2.2.2.1.1 ++ [(.inl b, none)] := by unfold aPe; rw [h1, h2]; rfl
  refine ⟨p', [.inl x], f1, ?_, f2, A, f3, f4⟩
  rw [e2]
  exact aR_sn hA ⟨x0, x1⟩
theorem rI32 {z : Int} (h0 : 0 ≤ z) (h1 : z ≤ 1000) : ∃ x : Int32, x.toInt = z := ⟨Int32.ofInt z, by rw [Int32.toInt_ofInt_of_le (by omega) (by omega)]⟩
theorem rTy_o {K : Nat → Nat} {n : Nat} {σ : Nat → jcell} {a b : Nat} {o : Int} {y : rY} {c : jcell} (h : rTy K n σ a o y) (hb : K b = 86 ∨ K b = 82 ∨ K b = 65) : rTy K n (jup σ b c) a o y := by
  obtain ⟨⟨g1, r1, e1⟩, ⟨g2, r2, e2⟩, ⟨g3, r3, e3⟩, ⟨g4, r4, e4⟩, g5, g6, r5, r6, e5⟩ := h
  exact ⟨⟨g1, rRo_o r1 (by omega) (by omega), e1⟩, ⟨g2, rRo_o r2 (by omega) (by omega), e2⟩, ⟨g3, rRo_o r3 (by omega) (by omega), e3⟩, ⟨g4, rRo_o r4 (by omega) (by omega), e4⟩, g5, g6, rRo_o r5 (by omega) (by omega), rRo_o r6 (by omega) (by omega), e5⟩
theorem rTY_o {K : Nat → Nat} {n : Nat} {σ : Nat → jcell} {a b : Nat} {o C : Int} {y : rY} {c : jcell} (h : rTY K n σ a o C y) (hb : K b = 86 ∨ K b = 82) : rTY K n (jup σ b c) a o C y := by
  obtain ⟨h1, ⟨g, r, e⟩, h2⟩ := h
  exact ⟨rTy_o h1 (by omega), ⟨g, rRo_o r (by omega) (by omega), e⟩, h2⟩
theorem rUa_b {C nd : Int} {y : rY} (h : rTr C y) (n0 : 0 ≤ nd) (n1 : nd ≤ C) : ∀ {j : Nat}, (∀ i : Nat, i < j → 1 ≤ rUa y.1 i nd) → 0 ≤ rUa y.1 j nd ∧ rUa y.1 j nd ≤ C
  | 0, _ => ⟨n0, n1⟩
  | j + 1, hi => by
    have ih := rUa_b h n0 n1 (j := j) (fun i h9 => hi i (by omega))
    have := h.2.1 _ (hi j (by omega)) ih.2
    exact ⟨this.1, by show y.1 (rUa y.1 j nd) ≤ C; omega⟩
theorem rTy_sb {K : Nat → Nat} {n : Nat} {σ σ' : Nat → jcell} {vs : List jv} {d : List aDe} (h : ∀ a, a < n → ∀ q ∈ d, q.1 = K a → aSm vs q (σ a) (σ' a)) {a : Nat} {F : List Nat} {z : Option aF} {fo : aF} {o b : Int} {y : rY} (hq : (62, F, z) ∈ d) (hf : 8 ∈ F ∧ 9 ∈ F ∧ 10 ∈ F ∧ 11 ∈ F ∧ 16 ∈ F ∧ 17 ∈ F) (r5 : (74, [], none) ∈ d) (r6 : (75, [], none) ∈ d) (r1 : (66, [], some fo) ∈ d) (r2 : (67, [], some fo) ∈ d) (r3 : (68, [], some fo) ∈ d) (r4 : (69, [], some fo) ∈ d) (hb : ∀ x, aVa vs fo x → x = b) (ho : rTy K n σ a o y) : ∃ y', rTy K n σ' a o y' ∧ (∀ k, 0 ≤ 301 * o + k → 301 * o + k < b → y'.1 k = y.1 k ∧ y'.2.1 k = y.2.1 k ∧ y'.2.2.1 k = y.2.2.1 k ∧ y'.2.2.2.1 k = y.2.2.2.1 k) ∧ y'.2.2.2.2 = y.2.2.2.2 := by
  obtain ⟨h1, h2, h3, h4, h5⟩ := ho
  obtain ⟨f1, i1, j1⟩ := rRy9_sb h hq hf.1 r1 hb h1
  obtain ⟨f2, i2, j2⟩ := rRy9_sb h hq hf.2.1 r2 hb h2
  obtain ⟨f3, i3, j3⟩ := rRy9_sb h hq hf.2.2.1 r3 hb h3
  obtain ⟨f4, i4, j4⟩ := rRy9_sb h hq hf.2.2.2.1 r4 hb h4
  exact ⟨(f1, f2, f3, f4, y.2.2.2.2), ⟨i1, i2, i3, i4, rSt9_st h hq hf.2.2.2.2.1 hf.2.2.2.2.2 r5 r6 h5⟩, fun k k0 k1 => ⟨j1 k k0 k1, j2 k k0 k1, j3 k k0 k1, j4 k k0 k1⟩, rfl⟩
theorem rVl_st {K : Nat → Nat} {n : Nat} {σ σ' : Nat → jcell} {vs : List jv} {d : List aDe} (h : ∀ a, a < n → ∀ q ∈ d, q.1 = K a → aSm vs q (σ a) (σ' a)) {a : Nat} {F : List Nat} {z : Option aF} {g : Nat → Int32} (hq : (62, F, z) ∈ d) (hf : 22 ∈ F) (hr : (80, [], none) ∈ d) (ho : rVl K n σ a g) : rVl K n σ' a g := by
  obtain ⟨r, o, h1, h2, e⟩ := ho
  refine ⟨r, rOb_st h hq hf o, h1, h2, ?_⟩
  rcases h r h1 _ hr h2.symm with e1 | ⟨c', f1, f2, e3, e4, -, e5⟩ | ⟨ty, m, g1, g2, f', z', e0, -⟩
  · rw [e1]; exact e
  · rw [e3] at e
    cases e
  · cases e0
end
section
/-! the reference: the second table of facts -/
noncomputable def rb_237 (K : Nat → Nat) (n : Nat) (vs : List jv) (σ : Nat → jcell) : Prop := rC_rii (fun (a0 : Nat) (a1 : Int) (a2 : Int) => a2 = 1 → ∃ g c, rRo K n σ a0 62 32 85 2048 g ∧ rOb K n σ a0 62 33 (rI c) ∧ ∃ j, 0 ≤ j ∧ j < c.toInt ∧ (g j.toNat).toInt = a1) vs
noncomputable def rb_238 (K : Nat → Nat) (n : Nat) (vs : List jv) (σ : Nat → jcell) : Prop := rC_rii (fun (a0 : Nat) (a1 : Int) (a2 : Int) => ∃ C y, rTY K n σ a0 a1 C y ∧ (0 ≤ a2 → a2 ≤ C)) vs
noncomputable def rb_241 (K : Nat → Nat) (n : Nat) (vs : List jv) (σ : Nat → jcell) : Prop := rC_rii (fun (a0 : Nat) (a1 : Int) (a2 : Int) => ∃ C y, rTY K n σ a0 a1 C y ∧ (0 ≤ a2 ∧ a2 ≤ C)) vs
noncomputable def rb_242 (K : Nat → Nat) (n : Nat) (vs : List jv) (σ : Nat → jcell) : Prop := rC_riii (fun (a0 : Nat) (a1 : Int) (a2 : Int) (a3 : Int) => ∃ C y, rTY K n σ a0 a1 C y ∧ (∃ L, rCn y.2.2.2.1 a2 L ∧ (∀ c ∈ L, 1 ≤ c ∧ c ≤ C) ∧ (L.length : Int) = a3)) vs
noncomputable def rb_243 (K : Nat → Nat) (n : Nat) (vs : List jv) (σ : Nat → jcell) : Prop := rC_riii (fun (a0 : Nat) (a1 : Int) (a2 : Int) (a3 : Int) => ∃ C y, rTY K n σ a0 a1 C y ∧ (y.1 a2 = a3)) vs
noncomputable def rb_245 (K : Nat → Nat) (n : Nat) (vs : List jv) (σ : Nat → jcell) : Prop := rC_rii (fun (a0 : Nat) (a1 : Int) (a2 : Int) => rSL9 K n σ a0 a1 a2) vs
noncomputable def rb_246 (K : Nat → Nat) (n : Nat) (vs : List jv) (σ : Nat → jcell) : Prop := rC_riiii (fun (a0 : Nat) (a1 : Int) (a2 : Int) (a3 : Int) (a4 : Int) => ∃ C y, rTY K n σ a0 a1 C y ∧ 0 ≤ a2 ∧ a2 ≤ C ∧ 0 ≤ a3 ∧ rPth K n σ a0 y a2 a3 ∧ a4 = rUa y.1 a3.toNat a2 ∧ 0 ≤ a4 ∧ a4 ≤ C) vs
noncomputable def rb_247 (K : Nat → Nat) (n : Nat) (vs : List jv) (σ : Nat → jcell) : Prop := rC_riiii (fun (a0 : Nat) (a1 : Int) (a2 : Int) (a3 : Int) (a4 : Int) => ∃ C y, rTY K n σ a0 a1 C y ∧ 0 ≤ a2 ∧ a2 ≤ C ∧ 0 ≤ a3 ∧ rPth K n σ a0 y a2 (a3 + 1) ∧ a4 = rUa y.1 a3.toNat a2 ∧ 1 ≤ a4 ∧ a4 ≤ C) vs
noncomputable def rb_248 (K : Nat → Nat) (n : Nat) (vs : List jv) (σ : Nat → jcell) : Prop := rC_rii (fun (a0 : Nat) (a1 : Int) (a2 : Int) => 0 ≤ a1 ∧ ∃ g5 gm, rRo K n σ a0 62 16 74 128 g5 ∧ rRo K n σ a0 62 24 82 64 gm ∧ ∀ j, 0 ≤ j → j < a2 → j ≤ 63 → (gm j.toNat).toInt = (g5 (64 * a1 + j).toNat).toInt) vs
noncomputable def rb_249 (K : Nat → Nat) (n : Nat) (vs : List jv) (σ : Nat → jcell) : Prop := rC_rii (fun (a0 : Nat) (a1 : Int) (a2 : Int) => 0 ≤ a1 ∧ ∃ g5 gm, rRo K n σ a0 62 16 74 128 g5 ∧ rRo K n σ a0 62 24 82 64 gm ∧ ∀ j, 0 ≤ j → j < a2 + 1 → j ≤ 63 → (gm j.toNat).toInt = (g5 (64 * a1 + j).toNat).toInt) vs
noncomputable def rb_250 (K : Nat → Nat) (n : Nat) (vs : List jv) (σ : Nat → jcell) : Prop := rC_riiii (fun (a0 : Nat) (a1 : Int) (a2 : Int) (a3 : Int) (a4 : Int) => ∃ C y, rTY K n σ a0 a1 C y ∧ 0 ≤ a2 ∧ a2 ≤ C ∧ 0 ≤ a3 ∧ rPth K n σ a0 y a2 a3 ∧ rUa y.1 a3.toNat a2 = 0 ∧ -1 ≤ a4 ∧ a4 < a3 ∧ rTX K n σ a0 (rPo y (rUa y.1 (a4 + 1).toNat a2))) vs
noncomputable def rb_251 (K : Nat → Nat) (n : Nat) (vs : List jv) (σ : Nat → jcell) : Prop := rC_riiii (fun (a0 : Nat) (a1 : Int) (a2 : Int) (a3 : Int) (a4 : Int) => ∃ C y, rTY K n σ a0 a1 C y ∧ 0 ≤ a2 ∧ a2 ≤ C ∧ 0 ≤ a3 ∧ rPth K n σ a0 y a2 a3 ∧ rUa y.1 a3.toNat a2 = 0 ∧ 0 ≤ a4 ∧ a4 < a3 ∧ rTX K n σ a0 (rPo y (rUa y.1 a4.toNat a2))) vs
noncomputable def rb_252 (K : Nat → Nat) (n : Nat) (vs : List jv) (σ : Nat → jcell) : Prop := rC_riiii (fun (a0 : Nat) (a1 : Int) (a2 : Int) (a3 : Int) (a4 : Int) => ∃ C y, rTY K n σ a0 a1 C y ∧ 0 ≤ a2 ∧ a2 ≤ C ∧ 0 ≤ a3 ∧ rPth K n σ a0 y a2 a3 ∧ rUa y.1 a3.toNat a2 = 0) vs
noncomputable def rb_253 (K : Nat → Nat) (n : Nat) (vs : List jv) (σ : Nat → jcell) : Prop := rC_rii (fun (a0 : Nat) (a1 : Int) (a2 : Int) => ∃ C y, rTY K n σ a0 a1 C y ∧ (y.2.2.2.2.1.2.1 = a2)) vs
noncomputable def rb_254 (K : Nat → Nat) (n : Nat) (vs : List jv) (σ : Nat → jcell) : Prop := rC_rii (fun (a0 : Nat) (a1 : Int) (a2 : Int) => ∃ C y, rTY K n σ a0 a1 C y ∧ (y.2.2.2.2.1.2.2.1 = a2)) vs
noncomputable def rb_255 (K : Nat → Nat) (n : Nat) (vs : List jv) (σ : Nat → jcell) : Prop := rC_rii (fun (a0 : Nat) (a1 : Int) (a2 : Int) => ∃ C y, rTY K n σ a0 a1 C y ∧ (y.2.2.2.2.1.2.2.2 = a2)) vs
noncomputable def rb_256 (K : Nat → Nat) (n : Nat) (vs : List jv) (σ : Nat → jcell) : Prop := rC_ri (fun (a0 : Nat) (a1 : Int) => 0 ≤ a1 ∧ ∃ g, rRo K n σ a0 62 10 68 602 g ∧ (g a1.toNat).toInt = -1) vs
noncomputable def rb_257 (K : Nat → Nat) (n : Nat) (vs : List jv) (σ : Nat → jcell) : Prop := rC_ri (fun (a0 : Nat) (a1 : Int) => 0 ≤ a1 ∧ ∃ g, rRo K n σ a0 62 11 69 602 g ∧ (g a1.toNat).toInt = -1) vs
noncomputable def rb_258 (K : Nat → Nat) (n : Nat) (vs : List jv) (σ : Nat → jcell) : Prop := rC_riiii (fun (a0 : Nat) (a1 : Int) (a2 : Int) (a3 : Int) (a4 : Int) => ∃ y, rTy K n σ a0 a1 y ∧ 0 ≤ a1 ∧ 1 ≤ a4 ∧ a4 ≤ 300 ∧ rTr (a4 - 1) y ∧ 0 ≤ a2 ∧ a2 ≤ a4 - 1 ∧ rLm (rPo y a2) a3 ∧ rGd (rMk (rPo y a2) a3)) vs
noncomputable def rb_259 (K : Nat → Nat) (n : Nat) (vs : List jv) (σ : Nat → jcell) : Prop := rC_riii (fun (a0 : Nat) (a1 : Int) (a2 : Int) (a3 : Int) => 0 ≤ 301 * a1 + a2 ∧ ∃ g, rRo K n σ a0 62 8 66 602 g ∧ (g (301 * a1 + a2).toNat).toInt = a3) vs
noncomputable def rb_260 (K : Nat → Nat) (n : Nat) (vs : List jv) (σ : Nat → jcell) : Prop := rC_riii (fun (a0 : Nat) (a1 : Int) (a2 : Int) (a3 : Int) => 0 ≤ 301 * a1 + a2 ∧ ∃ g, rRo K n σ a0 62 9 67 602 g ∧ (g (301 * a1 + a2).toNat).toInt = a3) vs
noncomputable def rb_261 (K : Nat → Nat) (n : Nat) (vs : List jv) (σ : Nat → jcell) : Prop := rC_rii (fun (a0 : Nat) (a1 : Int) (a2 : Int) => ∃ y, rTy K n σ a0 a1 y ∧ 0 ≤ a1 ∧ rTr a2 y ∧ 1 ≤ a2) vs
noncomputable def rb_262 (K : Nat → Nat) (n : Nat) (vs : List jv) (σ : Nat → jcell) : Prop := rC_rii (fun (a0 : Nat) (a1 : Int) (a2 : Int) => 0 ≤ a1 ∧ ∃ g, rRo K n σ a0 62 7 65 2 g ∧ (g a1.toNat).toInt = a2) vs
noncomputable def rb_263 (K : Nat → Nat) (n : Nat) (vs : List jv) (σ : Nat → jcell) : Prop := rC_riiii (fun (a0 : Nat) (a1 : Int) (a2 : Int) (a3 : Int) (a4 : Int) => ∃ y, rTy K n σ a0 a1 y ∧ ∃ A B, rCn y.2.2.2.1 (y.2.2.1 a2) (A ++ a3 :: B) ∧ (∀ c ∈ A ++ a3 :: B, 1 ≤ c) ∧ (B.length : Int) = a4) vs
noncomputable def rb_264 (K : Nat → Nat) (n : Nat) (vs : List jv) (σ : Nat → jcell) : Prop := rC_ri (fun (a0 : Nat) (a1 : Int) => 0 ≤ a1 ∧ ∃ g, rRo K n σ a0 62 7 65 2 g ∧ (g a1.toNat).toInt ≤ 299) vs
noncomputable def rb_266 (K : Nat → Nat) (n : Nat) (vs : List jv) (σ : Nat → jcell) : Prop := rC_riii (fun (a0 : Nat) (a1 : Int) (a2 : Int) (a3 : Int) => ∃ C y, rTY K n σ a0 a1 C y ∧ (rLm (rPo y a2) a3 ∧ rGd (rMk (rPo y a2) a3))) vs
noncomputable def rb_270 (K : Nat → Nat) (n : Nat) (vs : List jv) (σ : Nat → jcell) : Prop := rC_i (fun (a0 : Int) => True) vs
noncomputable def rb_271 (K : Nat → Nat) (n : Nat) (vs : List jv) (σ : Nat → jcell) : Prop := rC_i (fun (a0 : Int) => True) vs
noncomputable def rb_276 (K : Nat → Nat) (n : Nat) (vs : List jv) (σ : Nat → jcell) : Prop := rC_riii (fun (a0 : Nat) (a1 : Int) (a2 : Int) (a3 : Int) => ∃ C y, rTY K n σ a0 a1 C y ∧ (1 ≤ a2 ∧ a2 ≤ C ∧ y.2.2.1 (y.1 a2) = a3)) vs
noncomputable def rb_277 (K : Nat → Nat) (n : Nat) (vs : List jv) (σ : Nat → jcell) : Prop := rC_riiii (fun (a0 : Nat) (a1 : Int) (a2 : Int) (a3 : Int) (a4 : Int) => ∃ C y, rTY K n σ a0 a1 C y ∧ (1 ≤ a2 ∧ a2 ≤ C ∧ ∃ A B D, rCn y.2.2.2.1 (y.2.2.1 (y.1 a2)) (A ++ a3 :: (B ++ a2 :: D)) ∧ (∀ c ∈ A ++ a3 :: (B ++ a2 :: D), 1 ≤ c ∧ c ≤ C) ∧ (B.length : Int) = a4)) vs
noncomputable def rb_278 (K : Nat → Nat) (n : Nat) (vs : List jv) (σ : Nat → jcell) : Prop := rC_riiiii (fun (a0 : Nat) (a1 : Int) (a2 : Int) (a3 : Int) (a4 : Int) (a5 : Int) => ∃ C y nx, rTy K n σ a0 a1 y ∧ rCt9 K n σ a0 a1 C ∧ rTr C (y.1, y.2.1, y.2.2.1, nx, y.2.2.2.2) ∧ 1 ≤ a2 ∧ a2 ≤ C ∧ y.1 a2 = a3 ∧ y.2.2.1 a3 = a4 ∧ ¬ a4 = a2 ∧ (∃ A B, rCn nx (y.2.2.1 a3) (A ++ a5 :: a2 :: B) ∧ ∀ c ∈ A ++ a5 :: a2 :: B, 1 ≤ c ∧ c ≤ C) ∧ ∀ k, 0 ≤ k → k ≤ C → y.2.2.2.1 k = if k = a5 then nx a2 else nx k) vs
noncomputable def rb_279 (K : Nat → Nat) (n : Nat) (vs : List jv) (σ : Nat → jcell) : Prop := rC_riiiii (fun (a0 : Nat) (a1 : Int) (a2 : Int) (a3 : Int) (a4 : Int) (a5 : Int) => ∃ C y nx, rTy K n σ a0 a1 y ∧ rCt9 K n σ a0 a1 C ∧ rTr C (y.1, y.2.1, y.2.2.1, nx, y.2.2.2.2) ∧ 1 ≤ a2 ∧ a2 ≤ C ∧ y.1 a2 = a3 ∧ y.2.2.1 a3 = a4 ∧ ¬ a4 = a2 ∧ (∃ A B, rCn nx (y.2.2.1 a3) (A ++ a5 :: a2 :: B) ∧ ∀ c ∈ A ++ a5 :: a2 :: B, 1 ≤ c ∧ c ≤ C) ∧ ∀ k, 0 ≤ k → k ≤ C → y.2.2.2.1 k = if k = a2 then a4 else if k = a5 then nx a2 else nx k) vs
noncomputable def rb_280 (K : Nat → Nat) (n : Nat) (vs : List jv) (σ : Nat → jcell) : Prop := rC_ri (fun (a0 : Nat) (a1 : Int) => 0 ≤ a1 ∧ (∃ g, rRo K n σ a0 62 7 65 2 g ∧ (g a1.toNat).toInt = 0) ∧ ∃ g, rRo K n σ a0 62 10 68 602 g ∧ (g (301 * a1).toNat).toInt = -1) vs
noncomputable def rb_281 (K : Nat → Nat) (n : Nat) (vs : List jv) (σ : Nat → jcell) : Prop := rC_ri (fun (a0 : Nat) (a1 : Int) => ∃ q z, rSt9 K n σ a0 a1 q z ∧ rGd q ∧ 0 ≤ z ∧ z ≤ 999 ∧ 0 ≤ q.2.2.1 ∧ q.2.2.1 ≤ 15) vs
noncomputable def rb_282 (K : Nat → Nat) (n : Nat) (vs : List jv) (σ : Nat → jcell) : Prop := rC_r (fun (a0 : Nat) => ∃ q, rTX K n σ a0 q ∧ rGd q) vs ∨ rC_ri (fun (a0 : Nat) (a1 : Int) => a1 = 1 → ∃ q, rTX K n σ a0 q ∧ rGd q) vs
noncomputable def rb_283 (K : Nat → Nat) (n : Nat) (vs : List jv) (σ : Nat → jcell) : Prop := rC_rii (fun (a0 : Nat) (a1 : Int) (a2 : Int) => 0 ≤ a1 ∧ ∃ g5 gm, rRo K n σ a0 62 16 74 128 g5 ∧ rRo K n σ a0 62 24 82 64 gm ∧ ∀ j, 0 ≤ j → j < a2 → j ≤ 63 → (g5 (64 * a1 + j).toNat).toInt = (gm j.toNat).toInt) vs
noncomputable def rb_284 (K : Nat → Nat) (n : Nat) (vs : List jv) (σ : Nat → jcell) : Prop := rC_rii (fun (a0 : Nat) (a1 : Int) (a2 : Int) => 0 ≤ a1 ∧ ∃ g5 gm, rRo K n σ a0 62 16 74 128 g5 ∧ rRo K n σ a0 62 24 82 64 gm ∧ ∀ j, 0 ≤ j → j < a2 + 1 → j ≤ 63 → (g5 (64 * a1 + j).toNat).toInt = (gm j.toNat).toInt) vs
noncomputable def rb_285 (K : Nat → Nat) (n : Nat) (vs : List jv) (σ : Nat → jcell) : Prop := rC_ri (fun (a0 : Nat) (a1 : Int) => ∃ g, rRo K n σ a0 62 24 82 64 g ∧ ∀ j, 0 ≤ j → j < a1 → j ≤ 63 → (g j.toNat).toInt = 0) vs
noncomputable def rb_286 (K : Nat → Nat) (n : Nat) (vs : List jv) (σ : Nat → jcell) : Prop := rC_ri (fun (a0 : Nat) (a1 : Int) => ∃ g, rRo K n σ a0 62 24 82 64 g ∧ ∀ j, 0 ≤ j → j < a1 + 1 → j ≤ 63 → (g j.toNat).toInt = 0) vs
noncomputable def rb_287 (K : Nat → Nat) (n : Nat) (vs : List jv) (σ : Nat → jcell) : Prop := rC_ri (fun (a0 : Nat) (a1 : Int) => 0 ≤ a1 ∧ ∃ g, rRo K n σ a0 62 7 65 2 g ∧ (g a1.toNat).toInt = 0) vs
noncomputable def rb_288 (K : Nat → Nat) (n : Nat) (vs : List jv) (σ : Nat → jcell) : Prop := rC_rii (fun (a0 : Nat) (a1 : Int) (a2 : Int) => 0 ≤ a1 ∧ ∃ g, rRo K n σ a0 62 17 75 10 g ∧ (g (5 * a1 + 0).toNat).toInt = a2) vs
noncomputable def rb_289 (K : Nat → Nat) (n : Nat) (vs : List jv) (σ : Nat → jcell) : Prop := rC_rii (fun (a0 : Nat) (a1 : Int) (a2 : Int) => 0 ≤ a1 ∧ ∃ g, rRo K n σ a0 62 17 75 10 g ∧ (g (5 * a1 + 1).toNat).toInt = a2) vs
noncomputable def rb_290 (K : Nat → Nat) (n : Nat) (vs : List jv) (σ : Nat → jcell) : Prop := rC_rii (fun (a0 : Nat) (a1 : Int) (a2 : Int) => 0 ≤ a1 ∧ ∃ g, rRo K n σ a0 62 17 75 10 g ∧ (g (5 * a1 + 2).toNat).toInt = a2) vs
noncomputable def rb_291 (K : Nat → Nat) (n : Nat) (vs : List jv) (σ : Nat → jcell) : Prop := rC_rii (fun (a0 : Nat) (a1 : Int) (a2 : Int) => 0 ≤ a1 ∧ ∃ g, rRo K n σ a0 62 17 75 10 g ∧ (g (5 * a1 + 4).toNat).toInt = a2) vs
noncomputable def rb_300 (K : Nat → Nat) (n : Nat) (vs : List jv) (σ : Nat → jcell) : Prop := rC_r (fun (a0 : Nat) => ∃ M, rTe K n σ a0 M ∧ (M = rIp 0)) vs
noncomputable def rb_301 (K : Nat → Nat) (n : Nat) (vs : List jv) (σ : Nat → jcell) : Prop := rC_r (fun (a0 : Nat) => ∃ M, rTe K n σ a0 M ∧ (M = rIp 1)) vs
noncomputable def rb_302 (K : Nat → Nat) (n : Nat) (vs : List jv) (σ : Nat → jcell) : Prop := rC_r (fun (a0 : Nat) => ∃ M, rTe K n σ a0 M ∧ (M = rIp 2)) vs
noncomputable def rb_303 (K : Nat → Nat) (n : Nat) (vs : List jv) (σ : Nat → jcell) : Prop := rC_r (fun (a0 : Nat) => ∃ M, rTe K n σ a0 M ∧ (M = rIp 3)) vs
noncomputable def rb_304 (K : Nat → Nat) (n : Nat) (vs : List jv) (σ : Nat → jcell) : Prop := rC_r (fun (a0 : Nat) => ∃ M, rTe K n σ a0 M ∧ (M = rIp 4)) vs
noncomputable def rb_305 (K : Nat → Nat) (n : Nat) (vs : List jv) (σ : Nat → jcell) : Prop := rC_r (fun (a0 : Nat) => ∃ M, rTe K n σ a0 M ∧ (M = rIp 5)) vs
noncomputable def rb_306 (K : Nat → Nat) (n : Nat) (vs : List jv) (σ : Nat → jcell) : Prop := rC_r (fun (a0 : Nat) => ∃ M, rTe K n σ a0 M ∧ (M = rIp 6)) vs
noncomputable def rb_307 (K : Nat → Nat) (n : Nat) (vs : List jv) (σ : Nat → jcell) : Prop := rC_r (fun (a0 : Nat) => ∃ M, rTe K n σ a0 M ∧ (M = rIp 7)) vs
noncomputable def rb_308 (K : Nat → Nat) (n : Nat) (vs : List jv) (σ : Nat → jcell) : Prop := rC_r (fun (a0 : Nat) => ∃ M, rTe K n σ a0 M ∧ (M = rIp 8)) vs
noncomputable def rb_309 (K : Nat → Nat) (n : Nat) (vs : List jv) (σ : Nat → jcell) : Prop := rC_r (fun (a0 : Nat) => ∃ M, rTe K n σ a0 M ∧ (M = rIp 9)) vs
noncomputable def rb_310 (K : Nat → Nat) (n : Nat) (vs : List jv) (σ : Nat → jcell) : Prop := rC_r (fun (a0 : Nat) => ∃ M, rTe K n σ a0 M ∧ (M = rIp 10)) vs
noncomputable def rb_311 (K : Nat → Nat) (n : Nat) (vs : List jv) (σ : Nat → jcell) : Prop := rC_r (fun (a0 : Nat) => ∃ M, rTe K n σ a0 M ∧ (M = rIp 11)) vs
noncomputable def rb_312 (K : Nat → Nat) (n : Nat) (vs : List jv) (σ : Nat → jcell) : Prop := rC_r (fun (a0 : Nat) => ∃ M, rTe K n σ a0 M ∧ (M = rIp 12)) vs
noncomputable def rb_313 (K : Nat → Nat) (n : Nat) (vs : List jv) (σ : Nat → jcell) : Prop := rC_r (fun (a0 : Nat) => ∃ M, rTe K n σ a0 M ∧ (M = rIp 13)) vs
noncomputable def rb_314 (K : Nat → Nat) (n : Nat) (vs : List jv) (σ : Nat → jcell) : Prop := rC_r (fun (a0 : Nat) => ∃ M, rTe K n σ a0 M ∧ (M = rIp 14)) vs
noncomputable def rb_315 (K : Nat → Nat) (n : Nat) (vs : List jv) (σ : Nat → jcell) : Prop := rC_r (fun (a0 : Nat) => ∃ M, rTe K n σ a0 M ∧ (M = rIp 15)) vs
noncomputable def rb_316 (K : Nat → Nat) (n : Nat) (vs : List jv) (σ : Nat → jcell) : Prop := rC_r (fun (a0 : Nat) => ∃ M, rTe K n σ a0 M ∧ (M = rIp 16)) vs
noncomputable def rb_317 (K : Nat → Nat) (n : Nat) (vs : List jv) (σ : Nat → jcell) : Prop := rC_r (fun (a0 : Nat) => ∃ M, rTe K n σ a0 M ∧ (M = rIp 17)) vs
noncomputable def rb_318 (K : Nat → Nat) (n : Nat) (vs : List jv) (σ : Nat → jcell) : Prop := rC_r (fun (a0 : Nat) => ∃ M, rTe K n σ a0 M ∧ (M = rIp 18)) vs
noncomputable def rb_319 (K : Nat → Nat) (n : Nat) (vs : List jv) (σ : Nat → jcell) : Prop := rC_r (fun (a0 : Nat) => ∃ M, rTe K n σ a0 M ∧ (M = rIp 19)) vs
noncomputable def rb_320 (K : Nat → Nat) (n : Nat) (vs : List jv) (σ : Nat → jcell) : Prop := rC_r (fun (a0 : Nat) => ∃ M, rTe K n σ a0 M ∧ (M = rIp 20)) vs
noncomputable def rb_321 (K : Nat → Nat) (n : Nat) (vs : List jv) (σ : Nat → jcell) : Prop := rC_r (fun (a0 : Nat) => ∃ M, rTe K n σ a0 M ∧ (M = rIp 21)) vs
noncomputable def rb_322 (K : Nat → Nat) (n : Nat) (vs : List jv) (σ : Nat → jcell) : Prop := rC_r (fun (a0 : Nat) => ∃ M, rTe K n σ a0 M ∧ (M = rIp 22)) vs
noncomputable def rb_323 (K : Nat → Nat) (n : Nat) (vs : List jv) (σ : Nat → jcell) : Prop := rC_r (fun (a0 : Nat) => ∃ M, rTe K n σ a0 M ∧ (M = rIp 23)) vs
noncomputable def rb_324 (K : Nat → Nat) (n : Nat) (vs : List jv) (σ : Nat → jcell) : Prop := rC_r (fun (a0 : Nat) => ∃ M, rTe K n σ a0 M ∧ (M = rIp 24)) vs
noncomputable def rb_325 (K : Nat → Nat) (n : Nat) (vs : List jv) (σ : Nat → jcell) : Prop := rC_r (fun (a0 : Nat) => ∃ M, rTe K n σ a0 M ∧ (M = rIp 25)) vs
noncomputable def rb_326 (K : Nat → Nat) (n : Nat) (vs : List jv) (σ : Nat → jcell) : Prop := rC_r (fun (a0 : Nat) => ∃ M, rTe K n σ a0 M ∧ (M = rIp 26)) vs
noncomputable def rb_327 (K : Nat → Nat) (n : Nat) (vs : List jv) (σ : Nat → jcell) : Prop := rC_r (fun (a0 : Nat) => ∃ M, rTe K n σ a0 M ∧ (M = rIp 27)) vs
noncomputable def rb_328 (K : Nat → Nat) (n : Nat) (vs : List jv) (σ : Nat → jcell) : Prop := rC_r (fun (a0 : Nat) => ∃ M, rTe K n σ a0 M ∧ (M = rIp 28)) vs
noncomputable def rb_329 (K : Nat → Nat) (n : Nat) (vs : List jv) (σ : Nat → jcell) : Prop := rC_r (fun (a0 : Nat) => ∃ M, rTe K n σ a0 M ∧ (M = rIp 29)) vs
noncomputable def rb_330 (K : Nat → Nat) (n : Nat) (vs : List jv) (σ : Nat → jcell) : Prop := rC_r (fun (a0 : Nat) => ∃ M, rTe K n σ a0 M ∧ (M = rIp 30)) vs
noncomputable def rb_331 (K : Nat → Nat) (n : Nat) (vs : List jv) (σ : Nat → jcell) : Prop := rC_r (fun (a0 : Nat) => ∃ M, rTe K n σ a0 M ∧ (M = rIp 31)) vs
noncomputable def rb_332 (K : Nat → Nat) (n : Nat) (vs : List jv) (σ : Nat → jcell) : Prop := rC_r (fun (a0 : Nat) => ∃ M, rTe K n σ a0 M ∧ (M = rIp 32)) vs
noncomputable def rb_333 (K : Nat → Nat) (n : Nat) (vs : List jv) (σ : Nat → jcell) : Prop := rC_ri (fun (a0 : Nat) (a1 : Int) => ∃ g t e, rVl K n σ a0 g ∧ rOb K n σ a0 62 38 (rI t) ∧ rOb K n σ a0 62 39 (rI e) ∧ a1 = (if t.toInt < e.toInt then (g t.toInt.toNat).toInt else 0)) vs
noncomputable def rb_334 (K : Nat → Nat) (n : Nat) (vs : List jv) (σ : Nat → jcell) : Prop := rC_r (fun (a0 : Nat) => ∃ M, rTe K n σ a0 M ∧ (rVal M)) vs
noncomputable def rb_335 (K : Nat → Nat) (n : Nat) (vs : List jv) (σ : Nat → jcell) : Prop := rC_r (fun (a0 : Nat) => ∃ M, rTe K n σ a0 M ∧ (rCnt M 6 64 = 1)) vs ∨ rC_riii (fun (a0 : Nat) (a1 : Int) (a2 : Int) (a3 : Int) => ∃ M, rTe K n σ a0 M ∧ (a3 = rCnt M a1 a2.toNat)) vs
noncomputable def rb_336 (K : Nat → Nat) (n : Nat) (vs : List jv) (σ : Nat → jcell) : Prop := rC_r (fun (a0 : Nat) => ∃ M, rTe K n σ a0 M ∧ (rCnt M 6 64 = 1 ∧ rCnt M 14 64 = 1)) vs ∨ rC_riii (fun (a0 : Nat) (a1 : Int) (a2 : Int) (a3 : Int) => ∃ M, rTe K n σ a0 M ∧ (a3 = rCnt M a1 (a2 + 1).toNat)) vs
noncomputable def rb_337 (K : Nat → Nat) (n : Nat) (vs : List jv) (σ : Nat → jcell) : Prop := rC_rii (fun (a0 : Nat) (a1 : Int) (a2 : Int) => ∃ M, rTe K n σ a0 M ∧ (a2 = rCnt M a1 64)) vs
noncomputable def rb_338 (K : Nat → Nat) (n : Nat) (vs : List jv) (σ : Nat → jcell) : Prop := rC_ri (fun (a0 : Nat) (a1 : Int) => a1 = 1 → ∃ M v, rTe K n σ a0 M ∧ rOb K n σ a0 62 25 (rI v) ∧ 0 ≤ v.toInt ∧ v.toInt ≤ 1 ∧ ∀ j, 0 ≤ j → j ≤ 63 → M j = 8 * (1 - v.toInt) + 6 → ∃ s, 0 ≤ s ∧ s ≤ 63 ∧ M s = 8 * (1 - v.toInt) + 6 ∧ ¬ rAk M s v.toInt) vs
noncomputable def rb_339 (K : Nat → Nat) (n : Nat) (vs : List jv) (σ : Nat → jcell) : Prop := rC_ri (fun (a0 : Nat) (a1 : Int) => a1 = 1 → ∃ M v P, rTe K n σ a0 M ∧ rOb K n σ a0 62 25 (rI v) ∧ rOb K n σ a0 62 27 (rI P) ∧ 0 ≤ P.toInt ∧ P.toInt ≤ 63 ∧ M P.toInt = 0 ∧ ((v.toInt = 0 ∧ P.toInt / 8 = 5) ∨ (v.toInt = 1 ∧ P.toInt / 8 = 2))) vs
noncomputable def rb_340 (K : Nat → Nat) (n : Nat) (vs : List jv) (σ : Nat → jcell) : Prop := rC_ri (fun (a0 : Nat) (a1 : Int) => a1 = 1 → ∃ M v P, rTe K n σ a0 M ∧ rOb K n σ a0 62 25 (rI v) ∧ rOb K n σ a0 62 27 (rI P) ∧ rPs (M, v.toInt, 0, P.toInt)) vs
noncomputable def rb_341 (K : Nat → Nat) (n : Nat) (vs : List jv) (σ : Nat → jcell) : Prop := rC_ii (fun (a0 : Int) (a1 : Int) => a1 = if a0 = 66 then 3 else if a0 = 75 then 6 else if a0 = 78 then 2 else if a0 = 80 then 1 else if a0 = 81 then 5 else if a0 = 82 then 4 else 0) vs
noncomputable def rb_449 (K : Nat → Nat) (n : Nat) (p : rP) (vs : List jv) (σ : Nat → jcell) : Prop := rC_rii (fun (a0 : Nat) (a1 : Int) (a2 : Int) => p.2 = none ∧ ∃ C y, rTY K n σ a0 a1 C y ∧ 0 ≤ a2 ∧ a2 ≤ C ∧ p.1 = rPo y a2) vs ∨ rC_riiii (fun (a0 : Nat) (a1 : Int) (a2 : Int) (a3 : Int) (a4 : Int) => p.2 = none ∧ ∃ C y, rTY K n σ a0 a1 C y ∧ 0 ≤ a2 ∧ a2 ≤ C ∧ 0 ≤ a3 ∧ rPth K n σ a0 y a2 a3 ∧ rUa y.1 a3.toNat a2 = 0 ∧ 0 ≤ a4 ∧ a4 < a3 ∧ p.1 = rPo y (rUa y.1 (a4 + 1).toNat a2)) vs
noncomputable def rUfllllll (K : Nat → Nat) (n : Nat) (k : Nat) (vs : List jv) (σ : Nat → jcell) : Prop := cond (Nat.beq k 237) (rb_237 K n vs σ) False
noncomputable def rUflllllr (K : Nat → Nat) (n : Nat) (k : Nat) (vs : List jv) (σ : Nat → jcell) : Prop := cond (Nat.beq k 238) (rb_238 K n vs σ) False
noncomputable def rUflllll (K : Nat → Nat) (n : Nat) (k : Nat) (vs : List jv) (σ : Nat → jcell) : Prop := cond (Nat.ble k 237) (rUfllllll K n k vs σ) (rUflllllr K n k vs σ)
noncomputable def rUfllllrl (K : Nat → Nat) (n : Nat) (k : Nat) (vs : List jv) (σ : Nat → jcell) : Prop := cond (Nat.beq k 241) (rb_241 K n vs σ) False
noncomputable def rUfllllrrl (K : Nat → Nat) (n : Nat) (k : Nat) (vs : List jv) (σ : Nat → jcell) : Prop := cond (Nat.beq k 242) (rb_242 K n vs σ) False
noncomputable def rUfllllrrr (K : Nat → Nat) (n : Nat) (k : Nat) (vs : List jv) (σ : Nat → jcell) : Prop := cond (Nat.beq k 243) (rb_243 K n vs σ) False
noncomputable def rUfllllrr (K : Nat → Nat) (n : Nat) (k : Nat) (vs : List jv) (σ : Nat → jcell) : Prop := cond (Nat.ble k 242) (rUfllllrrl K n k vs σ) (rUfllllrrr K n k vs σ)
noncomputable def rUfllllr (K : Nat → Nat) (n : Nat) (k : Nat) (vs : List jv) (σ : Nat → jcell) : Prop := cond (Nat.ble k 241) (rUfllllrl K n k vs σ) (rUfllllrr K n k vs σ)
noncomputable def rUfllll (K : Nat → Nat) (n : Nat) (k : Nat) (vs : List jv) (σ : Nat → jcell) : Prop := cond (Nat.ble k 238) (rUflllll K n k vs σ) (rUfllllr K n k vs σ)
noncomputable def rUflllrll (K : Nat → Nat) (n : Nat) (k : Nat) (vs : List jv) (σ : Nat → jcell) : Prop := cond (Nat.beq k 245) (rb_245 K n vs σ) False
noncomputable def rUflllrlr (K : Nat → Nat) (n : Nat) (k : Nat) (vs : List jv) (σ : Nat → jcell) : Prop := cond (Nat.beq k 246) (rb_246 K n vs σ) False
noncomputable def rUflllrl (K : Nat → Nat) (n : Nat) (k : Nat) (vs : List jv) (σ : Nat → jcell) : Prop := cond (Nat.ble k 245) (rUflllrll K n k vs σ) (rUflllrlr K n k vs σ)
noncomputable def rUflllrrl (K : Nat → Nat) (n : Nat) (k : Nat) (vs : List jv) (σ : Nat → jcell) : Prop := cond (Nat.beq k 247) (rb_247 K n vs σ) False
noncomputable def rUflllrrrl (K : Nat → Nat) (n : Nat) (k : Nat) (vs : List jv) (σ : Nat → jcell) : Prop := cond (Nat.beq k 248) (rb_248 K n vs σ) False
noncomputable def rUflllrrrr (K : Nat → Nat) (n : Nat) (k : Nat) (vs : List jv) (σ : Nat → jcell) : Prop := cond (Nat.beq k 249) (rb_249 K n vs σ) False
noncomputable def rUflllrrr (K : Nat → Nat) (n : Nat) (k : Nat) (vs : List jv) (σ : Nat → jcell) : Prop := cond (Nat.ble k 248) (rUflllrrrl K n k vs σ) (rUflllrrrr K n k vs σ)
noncomputable def rUflllrr (K : Nat → Nat) (n : Nat) (k : Nat) (vs : List jv) (σ : Nat → jcell) : Prop := cond (Nat.ble k 247) (rUflllrrl K n k vs σ) (rUflllrrr K n k vs σ)
noncomputable def rUflllr (K : Nat → Nat) (n : Nat) (k : Nat) (vs : List jv) (σ : Nat → jcell) : Prop := cond (Nat.ble k 246) (rUflllrl K n k vs σ) (rUflllrr K n k vs σ)
noncomputable def rUflll (K : Nat → Nat) (n : Nat) (k : Nat) (vs : List jv) (σ : Nat → jcell) : Prop := cond (Nat.ble k 243) (rUfllll K n k vs σ) (rUflllr K n k vs σ)
noncomputable def rUfllrlll (K : Nat → Nat) (n : Nat) (k : Nat) (vs : List jv) (σ : Nat → jcell) : Prop := cond (Nat.beq k 250) (rb_250 K n vs σ) False
noncomputable def rUfllrllr (K : Nat → Nat) (n : Nat) (k : Nat) (vs : List jv) (σ : Nat → jcell) : Prop := cond (Nat.beq k 251) (rb_251 K n vs σ) False
noncomputable def rUfllrll (K : Nat → Nat) (n : Nat) (k : Nat) (vs : List jv) (σ : Nat → jcell) : Prop := cond (Nat.ble k 250) (rUfllrlll K n k vs σ) (rUfllrllr K n k vs σ)
noncomputable def rUfllrlrl (K : Nat → Nat) (n : Nat) (k : Nat) (vs : List jv) (σ : Nat → jcell) : Prop := cond (Nat.beq k 252) (rb_252 K n vs σ) False
noncomputable def rUfllrlrrl (K : Nat → Nat) (n : Nat) (k : Nat) (vs : List jv) (σ : Nat → jcell) : Prop := cond (Nat.beq k 253) (rb_253 K n vs σ) False
noncomputable def rUfllrlrrr (K : Nat → Nat) (n : Nat) (k : Nat) (vs : List jv) (σ : Nat → jcell) : Prop := cond (Nat.beq k 254) (rb_254 K n vs σ) False
noncomputable def rUfllrlrr (K : Nat → Nat) (n : Nat) (k : Nat) (vs : List jv) (σ : Nat → jcell) : Prop := cond (Nat.ble k 253) (rUfllrlrrl K n k vs σ) (rUfllrlrrr K n k vs σ)
noncomputable def rUfllrlr (K : Nat → Nat) (n : Nat) (k : Nat) (vs : List jv) (σ : Nat → jcell) : Prop := cond (Nat.ble k 252) (rUfllrlrl K n k vs σ) (rUfllrlrr K n k vs σ)
noncomputable def rUfllrl (K : Nat → Nat) (n : Nat) (k : Nat) (vs : List jv) (σ : Nat → jcell) : Prop := cond (Nat.ble k 251) (rUfllrll K n k vs σ) (rUfllrlr K n k vs σ)
noncomputable def rUfllrrll (K : Nat → Nat) (n : Nat) (k : Nat) (vs : List jv) (σ : Nat → jcell) : Prop := cond (Nat.beq k 255) (rb_255 K n vs σ) False
noncomputable def rUfllrrlrl (K : Nat → Nat) (n : Nat) (k : Nat) (vs : List jv) (σ : Nat → jcell) : Prop := cond (Nat.beq k 256) (rb_256 K n vs σ) False
noncomputable def rUfllrrlrr (K : Nat → Nat) (n : Nat) (k : Nat) (vs : List jv) (σ : Nat → jcell) : Prop := cond (Nat.beq k 257) (rb_257 K n vs σ) False
noncomputable def rUfllrrlr (K : Nat → Nat) (n : Nat) (k : Nat) (vs : List jv) (σ : Nat → jcell) : Prop := cond (Nat.ble k 256) (rUfllrrlrl K n k vs σ) (rUfllrrlrr K n k vs σ)
noncomputable def rUfllrrl (K : Nat → Nat) (n : Nat) (k : Nat) (vs : List jv) (σ : Nat → jcell) : Prop := cond (Nat.ble k 255) (rUfllrrll K n k vs σ) (rUfllrrlr K n k vs σ)
noncomputable def rUfllrrrl (K : Nat → Nat) (n : Nat) (k : Nat) (vs : List jv) (σ : Nat → jcell) : Prop := cond (Nat.beq k 258) (rb_258 K n vs σ) False
noncomputable def rUfllrrrrl (K : Nat → Nat) (n : Nat) (k : Nat) (vs : List jv) (σ : Nat → jcell) : Prop := cond (Nat.beq k 259) (rb_259 K n vs σ) False
noncomputable def rUfllrrrrr (K : Nat → Nat) (n : Nat) (k : Nat) (vs : List jv) (σ : Nat → jcell) : Prop := cond (Nat.beq k 260) (rb_260 K n vs σ) False
noncomputable def rUfllrrrr (K : Nat → Nat) (n : Nat) (k : Nat) (vs : List jv) (σ : Nat → jcell) : Prop := cond (Nat.ble k 259) (rUfllrrrrl K n k vs σ) (rUfllrrrrr K n k vs σ)
noncomputable def rUfllrrr (K : Nat → Nat) (n : Nat) (k : Nat) (vs : List jv) (σ : Nat → jcell) : Prop := cond (Nat.ble k 258) (rUfllrrrl K n k vs σ) (rUfllrrrr K n k vs σ)
noncomputable def rUfllrr (K : Nat → Nat) (n : Nat) (k : Nat) (vs : List jv) (σ : Nat → jcell) : Prop := cond (Nat.ble k 257) (rUfllrrl K n k vs σ) (rUfllrrr K n k vs σ)
noncomputable def rUfllr (K : Nat → Nat) (n : Nat) (k : Nat) (vs : List jv) (σ : Nat → jcell) : Prop := cond (Nat.ble k 254) (rUfllrl K n k vs σ) (rUfllrr K n k vs σ)
noncomputable def rUfll (K : Nat → Nat) (n : Nat) (k : Nat) (vs : List jv) (σ : Nat → jcell) : Prop := cond (Nat.ble k 249) (rUflll K n k vs σ) (rUfllr K n k vs σ)
noncomputable def rUflrllll (K : Nat → Nat) (n : Nat) (k : Nat) (vs : List jv) (σ : Nat → jcell) : Prop := cond (Nat.beq k 261) (rb_261 K n vs σ) False
noncomputable def rUflrlllr (K : Nat → Nat) (n : Nat) (k : Nat) (vs : List jv) (σ : Nat → jcell) : Prop := cond (Nat.beq k 262) (rb_262 K n vs σ) False
noncomputable def rUflrlll (K : Nat → Nat) (n : Nat) (k : Nat) (vs : List jv) (σ : Nat → jcell) : Prop := cond (Nat.ble k 261) (rUflrllll K n k vs σ) (rUflrlllr K n k vs σ)
noncomputable def rUflrllrl (K : Nat → Nat) (n : Nat) (k : Nat) (vs : List jv) (σ : Nat → jcell) : Prop := cond (Nat.beq k 263) (rb_263 K n vs σ) False
noncomputable def rUflrllrrl (K : Nat → Nat) (n : Nat) (k : Nat) (vs : List jv) (σ : Nat → jcell) : Prop := cond (Nat.beq k 264) (rb_264 K n vs σ) False
noncomputable def rUflrllrrr (K : Nat → Nat) (n : Nat) (k : Nat) (vs : List jv) (σ : Nat → jcell) : Prop := cond (Nat.beq k 266) (rb_266 K n vs σ) False
noncomputable def rUflrllrr (K : Nat → Nat) (n : Nat) (k : Nat) (vs : List jv) (σ : Nat → jcell) : Prop := cond (Nat.ble k 264) (rUflrllrrl K n k vs σ) (rUflrllrrr K n k vs σ)
noncomputable def rUflrllr (K : Nat → Nat) (n : Nat) (k : Nat) (vs : List jv) (σ : Nat → jcell) : Prop := cond (Nat.ble k 263) (rUflrllrl K n k vs σ) (rUflrllrr K n k vs σ)
noncomputable def rUflrll (K : Nat → Nat) (n : Nat) (k : Nat) (vs : List jv) (σ : Nat → jcell) : Prop := cond (Nat.ble k 262) (rUflrlll K n k vs σ) (rUflrllr K n k vs σ)
noncomputable def rUflrlrll (K : Nat → Nat) (n : Nat) (k : Nat) (vs : List jv) (σ : Nat → jcell) : Prop := cond (Nat.beq k 270) (rb_270 K n vs σ) False
noncomputable def rUflrlrlrl (K : Nat → Nat) (n : Nat) (k : Nat) (vs : List jv) (σ : Nat → jcell) : Prop := cond (Nat.beq k 271) (rb_271 K n vs σ) False
noncomputable def rUflrlrlrr (K : Nat → Nat) (n : Nat) (k : Nat) (vs : List jv) (σ : Nat → jcell) : Prop := cond (Nat.beq k 276) (rb_276 K n vs σ) False
noncomputable def rUflrlrlr (K : Nat → Nat) (n : Nat) (k : Nat) (vs : List jv) (σ : Nat → jcell) : Prop := cond (Nat.ble k 271) (rUflrlrlrl K n k vs σ) (rUflrlrlrr K n k vs σ)
noncomputable def rUflrlrl (K : Nat → Nat) (n : Nat) (k : Nat) (vs : List jv) (σ : Nat → jcell) : Prop := cond (Nat.ble k 270) (rUflrlrll K n k vs σ) (rUflrlrlr K n k vs σ)
noncomputable def rUflrlrrl (K : Nat → Nat) (n : Nat) (k : Nat) (vs : List jv) (σ : Nat → jcell) : Prop := cond (Nat.beq k 277) (rb_277 K n vs σ) False
noncomputable def rUflrlrrrl (K : Nat → Nat) (n : Nat) (k : Nat) (vs : List jv) (σ : Nat → jcell) : Prop := cond (Nat.beq k 278) (rb_278 K n vs σ) False
noncomputable def rUflrlrrrr (K : Nat → Nat) (n : Nat) (k : Nat) (vs : List jv) (σ : Nat → jcell) : Prop := cond (Nat.beq k 279) (rb_279 K n vs σ) False
noncomputable def rUflrlrrr (K : Nat → Nat) (n : Nat) (k : Nat) (vs : List jv) (σ : Nat → jcell) : Prop := cond (Nat.ble k 278) (rUflrlrrrl K n k vs σ) (rUflrlrrrr K n k vs σ)
noncomputable def rUflrlrr (K : Nat → Nat) (n : Nat) (k : Nat) (vs : List jv) (σ : Nat → jcell) : Prop := cond (Nat.ble k 277) (rUflrlrrl K n k vs σ) (rUflrlrrr K n k vs σ)
noncomputable def rUflrlr (K : Nat → Nat) (n : Nat) (k : Nat) (vs : List jv) (σ : Nat → jcell) : Prop := cond (Nat.ble k 276) (rUflrlrl K n k vs σ) (rUflrlrr K n k vs σ)
noncomputable def rUflrl (K : Nat → Nat) (n : Nat) (k : Nat) (vs : List jv) (σ : Nat → jcell) : Prop := cond (Nat.ble k 266) (rUflrll K n k vs σ) (rUflrlr K n k vs σ)
noncomputable def rUflrrlll (K : Nat → Nat) (n : Nat) (k : Nat) (vs : List jv) (σ : Nat → jcell) : Prop := cond (Nat.beq k 280) (rb_280 K n vs σ) False
noncomputable def rUflrrllr (K : Nat → Nat) (n : Nat) (k : Nat) (vs : List jv) (σ : Nat → jcell) : Prop := cond (Nat.beq k 281) (rb_281 K n vs σ) False
noncomputable def rUflrrll (K : Nat → Nat) (n : Nat) (k : Nat) (vs : List jv) (σ : Nat → jcell) : Prop := cond (Nat.ble k 280) (rUflrrlll K n k vs σ) (rUflrrllr K n k vs σ)
noncomputable def rUflrrlrl (K : Nat → Nat) (n : Nat) (k : Nat) (vs : List jv) (σ : Nat → jcell) : Prop := cond (Nat.beq k 282) (rb_282 K n vs σ) False
noncomputable def rUflrrlrrl (K : Nat → Nat) (n : Nat) (k : Nat) (vs : List jv) (σ : Nat → jcell) : Prop := cond (Nat.beq k 283) (rb_283 K n vs σ) False
noncomputable def rUflrrlrrr (K : Nat → Nat) (n : Nat) (k : Nat) (vs : List jv) (σ : Nat → jcell) : Prop := cond (Nat.beq k 284) (rb_284 K n vs σ) False
noncomputable def rUflrrlrr (K : Nat → Nat) (n : Nat) (k : Nat) (vs : List jv) (σ : Nat → jcell) : Prop := cond (Nat.ble k 283) (rUflrrlrrl K n k vs σ) (rUflrrlrrr K n k vs σ)
noncomputable def rUflrrlr (K : Nat → Nat) (n : Nat) (k : Nat) (vs : List jv) (σ : Nat → jcell) : Prop := cond (Nat.ble k 282) (rUflrrlrl K n k vs σ) (rUflrrlrr K n k vs σ)
noncomputable def rUflrrl (K : Nat → Nat) (n : Nat) (k : Nat) (vs : List jv) (σ : Nat → jcell) : Prop := cond (Nat.ble k 281) (rUflrrll K n k vs σ) (rUflrrlr K n k vs σ)
noncomputable def rUflrrrll (K : Nat → Nat) (n : Nat) (k : Nat) (vs : List jv) (σ : Nat → jcell) : Prop := cond (Nat.beq k 285) (rb_285 K n vs σ) False
noncomputable def rUflrrrlrl (K : Nat → Nat) (n : Nat) (k : Nat) (vs : List jv) (σ : Nat → jcell) : Prop := cond (Nat.beq k 286) (rb_286 K n vs σ) False
noncomputable def rUflrrrlrr (K : Nat → Nat) (n : Nat) (k : Nat) (vs : List jv) (σ : Nat → jcell) : Prop := cond (Nat.beq k 287) (rb_287 K n vs σ) False
noncomputable def rUflrrrlr (K : Nat → Nat) (n : Nat) (k : Nat) (vs : List jv) (σ : Nat → jcell) : Prop := cond (Nat.ble k 286) (rUflrrrlrl K n k vs σ) (rUflrrrlrr K n k vs σ)
noncomputable def rUflrrrl (K : Nat → Nat) (n : Nat) (k : Nat) (vs : List jv) (σ : Nat → jcell) : Prop := cond (Nat.ble k 285) (rUflrrrll K n k vs σ) (rUflrrrlr K n k vs σ)
noncomputable def rUflrrrrl (K : Nat → Nat) (n : Nat) (k : Nat) (vs : List jv) (σ : Nat → jcell) : Prop := cond (Nat.beq k 288) (rb_288 K n vs σ) False
noncomputable def rUflrrrrrl (K : Nat → Nat) (n : Nat) (k : Nat) (vs : List jv) (σ : Nat → jcell) : Prop := cond (Nat.beq k 289) (rb_289 K n vs σ) False
noncomputable def rUflrrrrrr (K : Nat → Nat) (n : Nat) (k : Nat) (vs : List jv) (σ : Nat → jcell) : Prop := cond (Nat.beq k 290) (rb_290 K n vs σ) False
noncomputable def rUflrrrrr (K : Nat → Nat) (n : Nat) (k : Nat) (vs : List jv) (σ : Nat → jcell) : Prop := cond (Nat.ble k 289) (rUflrrrrrl K n k vs σ) (rUflrrrrrr K n k vs σ)
noncomputable def rUflrrrr (K : Nat → Nat) (n : Nat) (k : Nat) (vs : List jv) (σ : Nat → jcell) : Prop := cond (Nat.ble k 288) (rUflrrrrl K n k vs σ) (rUflrrrrr K n k vs σ)
noncomputable def rUflrrr (K : Nat → Nat) (n : Nat) (k : Nat) (vs : List jv) (σ : Nat → jcell) : Prop := cond (Nat.ble k 287) (rUflrrrl K n k vs σ) (rUflrrrr K n k vs σ)
noncomputable def rUflrr (K : Nat → Nat) (n : Nat) (k : Nat) (vs : List jv) (σ : Nat → jcell) : Prop := cond (Nat.ble k 284) (rUflrrl K n k vs σ) (rUflrrr K n k vs σ)
noncomputable def rUflr (K : Nat → Nat) (n : Nat) (k : Nat) (vs : List jv) (σ : Nat → jcell) : Prop := cond (Nat.ble k 279) (rUflrl K n k vs σ) (rUflrr K n k vs σ)
noncomputable def rUfl (K : Nat → Nat) (n : Nat) (k : Nat) (vs : List jv) (σ : Nat → jcell) : Prop := cond (Nat.ble k 260) (rUfll K n k vs σ) (rUflr K n k vs σ)
noncomputable def rUfrlllll (K : Nat → Nat) (n : Nat) (k : Nat) (vs : List jv) (σ : Nat → jcell) : Prop := cond (Nat.beq k 291) (rb_291 K n vs σ) False
noncomputable def rUfrllllr (K : Nat → Nat) (n : Nat) (k : Nat) (vs : List jv) (σ : Nat → jcell) : Prop := cond (Nat.beq k 300) (rb_300 K n vs σ) False
noncomputable def rUfrllll (K : Nat → Nat) (n : Nat) (k : Nat) (vs : List jv) (σ : Nat → jcell) : Prop := cond (Nat.ble k 291) (rUfrlllll K n k vs σ) (rUfrllllr K n k vs σ)
noncomputable def rUfrlllrl (K : Nat → Nat) (n : Nat) (k : Nat) (vs : List jv) (σ : Nat → jcell) : Prop := cond (Nat.beq k 301) (rb_301 K n vs σ) False
noncomputable def rUfrlllrrl (K : Nat → Nat) (n : Nat) (k : Nat) (vs : List jv) (σ : Nat → jcell) : Prop := cond (Nat.beq k 302) (rb_302 K n vs σ) False
noncomputable def rUfrlllrrr (K : Nat → Nat) (n : Nat) (k : Nat) (vs : List jv) (σ : Nat → jcell) : Prop := cond (Nat.beq k 303) (rb_303 K n vs σ) False
noncomputable def rUfrlllrr (K : Nat → Nat) (n : Nat) (k : Nat) (vs : List jv) (σ : Nat → jcell) : Prop := cond (Nat.ble k 302) (rUfrlllrrl K n k vs σ) (rUfrlllrrr K n k vs σ)
noncomputable def rUfrlllr (K : Nat → Nat) (n : Nat) (k : Nat) (vs : List jv) (σ : Nat → jcell) : Prop := cond (Nat.ble k 301) (rUfrlllrl K n k vs σ) (rUfrlllrr K n k vs σ)
noncomputable def rUfrlll (K : Nat → Nat) (n : Nat) (k : Nat) (vs : List jv) (σ : Nat → jcell) : Prop := cond (Nat.ble k 300) (rUfrllll K n k vs σ) (rUfrlllr K n k vs σ)
noncomputable def rUfrllrll (K : Nat → Nat) (n : Nat) (k : Nat) (vs : List jv) (σ : Nat → jcell) : Prop := cond (Nat.beq k 304) (rb_304 K n vs σ) False
noncomputable def rUfrllrlr (K : Nat → Nat) (n : Nat) (k : Nat) (vs : List jv) (σ : Nat → jcell) : Prop := cond (Nat.beq k 305) (rb_305 K n vs σ) False
noncomputable def rUfrllrl (K : Nat → Nat) (n : Nat) (k : Nat) (vs : List jv) (σ : Nat → jcell) : Prop := cond (Nat.ble k 304) (rUfrllrll K n k vs σ) (rUfrllrlr K n k vs σ)
noncomputable def rUfrllrrl (K : Nat → Nat) (n : Nat) (k : Nat) (vs : List jv) (σ : Nat → jcell) : Prop := cond (Nat.beq k 306) (rb_306 K n vs σ) False
noncomputable def rUfrllrrrl (K : Nat → Nat) (n : Nat) (k : Nat) (vs : List jv) (σ : Nat → jcell) : Prop := cond (Nat.beq k 307) (rb_307 K n vs σ) False
noncomputable def rUfrllrrrr (K : Nat → Nat) (n : Nat) (k : Nat) (vs : List jv) (σ : Nat → jcell) : Prop := cond (Nat.beq k 308) (rb_308 K n vs σ) False
noncomputable def rUfrllrrr (K : Nat → Nat) (n : Nat) (k : Nat) (vs : List jv) (σ : Nat → jcell) : Prop := cond (Nat.ble k 307) (rUfrllrrrl K n k vs σ) (rUfrllrrrr K n k vs σ)
noncomputable def rUfrllrr (K : Nat → Nat) (n : Nat) (k : Nat) (vs : List jv) (σ : Nat → jcell) : Prop := cond (Nat.ble k 306) (rUfrllrrl K n k vs σ) (rUfrllrrr K n k vs σ)
noncomputable def rUfrllr (K : Nat → Nat) (n : Nat) (k : Nat) (vs : List jv) (σ : Nat → jcell) : Prop := cond (Nat.ble k 305) (rUfrllrl K n k vs σ) (rUfrllrr K n k vs σ)
noncomputable def rUfrll (K : Nat → Nat) (n : Nat) (k : Nat) (vs : List jv) (σ : Nat → jcell) : Prop := cond (Nat.ble k 303) (rUfrlll K n k vs σ) (rUfrllr K n k vs σ)
noncomputable def rUfrlrlll (K : Nat → Nat) (n : Nat) (k : Nat) (vs : List jv) (σ : Nat → jcell) : Prop := cond (Nat.beq k 309) (rb_309 K n vs σ) False
noncomputable def rUfrlrllr (K : Nat → Nat) (n : Nat) (k : Nat) (vs : List jv) (σ : Nat → jcell) : Prop := cond (Nat.beq k 310) (rb_310 K n vs σ) False
noncomputable def rUfrlrll (K : Nat → Nat) (n : Nat) (k : Nat) (vs : List jv) (σ : Nat → jcell) : Prop := cond (Nat.ble k 309) (rUfrlrlll K n k vs σ) (rUfrlrllr K n k vs σ)
noncomputable def rUfrlrlrl (K : Nat → Nat) (n : Nat) (k : Nat) (vs : List jv) (σ : Nat → jcell) : Prop := cond (Nat.beq k 311) (rb_311 K n vs σ) False
noncomputable def rUfrlrlrrl (K : Nat → Nat) (n : Nat) (k : Nat) (vs : List jv) (σ : Nat → jcell) : Prop := cond (Nat.beq k 312) (rb_312 K n vs σ) False
noncomputable def rUfrlrlrrr (K : Nat → Nat) (n : Nat) (k : Nat) (vs : List jv) (σ : Nat → jcell) : Prop := cond (Nat.beq k 313) (rb_313 K n vs σ) False
noncomputable def rUfrlrlrr (K : Nat → Nat) (n : Nat) (k : Nat) (vs : List jv) (σ : Nat → jcell) : Prop := cond (Nat.ble k 312) (rUfrlrlrrl K n k vs σ) (rUfrlrlrrr K n k vs σ)
noncomputable def rUfrlrlr (K : Nat → Nat) (n : Nat) (k : Nat) (vs : List jv) (σ : Nat → jcell) : Prop := cond (Nat.ble k 311) (rUfrlrlrl K n k vs σ) (rUfrlrlrr K n k vs σ)
noncomputable def rUfrlrl (K : Nat → Nat) (n : Nat) (k : Nat) (vs : List jv) (σ : Nat → jcell) : Prop := cond (Nat.ble k 310) (rUfrlrll K n k vs σ) (rUfrlrlr K n k vs σ)
noncomputable def rUfrlrrll (K : Nat → Nat) (n : Nat) (k : Nat) (vs : List jv) (σ : Nat → jcell) : Prop := cond (Nat.beq k 314) (rb_314 K n vs σ) False
noncomputable def rUfrlrrlrl (K : Nat → Nat) (n : Nat) (k : Nat) (vs : List jv) (σ : Nat → jcell) : Prop := cond (Nat.beq k 315) (rb_315 K n vs σ) False
noncomputable def rUfrlrrlrr (K : Nat → Nat) (n : Nat) (k : Nat) (vs : List jv) (σ : Nat → jcell) : Prop := cond (Nat.beq k 316) (rb_316 K n vs σ) False
noncomputable def rUfrlrrlr (K : Nat → Nat) (n : Nat) (k : Nat) (vs : List jv) (σ : Nat → jcell) : Prop := cond (Nat.ble k 315) (rUfrlrrlrl K n k vs σ) (rUfrlrrlrr K n k vs σ)
noncomputable def rUfrlrrl (K : Nat → Nat) (n : Nat) (k : Nat) (vs : List jv) (σ : Nat → jcell) : Prop := cond (Nat.ble k 314) (rUfrlrrll K n k vs σ) (rUfrlrrlr K n k vs σ)
noncomputable def rUfrlrrrl (K : Nat → Nat) (n : Nat) (k : Nat) (vs : List jv) (σ : Nat → jcell) : Prop := cond (Nat.beq k 317) (rb_317 K n vs σ) False
noncomputable def rUfrlrrrrl (K : Nat → Nat) (n : Nat) (k : Nat) (vs : List jv) (σ : Nat → jcell) : Prop := cond (Nat.beq k 318) (rb_318 K n vs σ) False
noncomputable def rUfrlrrrrr (K : Nat → Nat) (n : Nat) (k : Nat) (vs : List jv) (σ : Nat → jcell) : Prop := cond (Nat.beq k 319) (rb_319 K n vs σ) False
noncomputable def rUfrlrrrr (K : Nat → Nat) (n : Nat) (k : Nat) (vs : List jv) (σ : Nat → jcell) : Prop := cond (Nat.ble k 318) (rUfrlrrrrl K n k vs σ) (rUfrlrrrrr K n k vs σ)
noncomputable def rUfrlrrr (K : Nat → Nat) (n : Nat) (k : Nat) (vs : List jv) (σ : Nat → jcell) : Prop := cond (Nat.ble k 317) (rUfrlrrrl K n k vs σ) (rUfrlrrrr K n k vs σ)
noncomputable def rUfrlrr (K : Nat → Nat) (n : Nat) (k : Nat) (vs : List jv) (σ : Nat → jcell) : Prop := cond (Nat.ble k 316) (rUfrlrrl K n k vs σ) (rUfrlrrr K n k vs σ)
noncomputable def rUfrlr (K : Nat → Nat) (n : Nat) (k : Nat) (vs : List jv) (σ : Nat → jcell) : Prop := cond (Nat.ble k 313) (rUfrlrl K n k vs σ) (rUfrlrr K n k vs σ)
noncomputable def rUfrl (K : Nat → Nat) (n : Nat) (k : Nat) (vs : List jv) (σ : Nat → jcell) : Prop := cond (Nat.ble k 308) (rUfrll K n k vs σ) (rUfrlr K n k vs σ)
noncomputable def rUfrrllll (K : Nat → Nat) (n : Nat) (k : Nat) (vs : List jv) (σ : Nat → jcell) : Prop := cond (Nat.beq k 320) (rb_320 K n vs σ) False
noncomputable def rUfrrlllr (K : Nat → Nat) (n : Nat) (k : Nat) (vs : List jv) (σ : Nat → jcell) : Prop := cond (Nat.beq k 321) (rb_321 K n vs σ) False
noncomputable def rUfrrlll (K : Nat → Nat) (n : Nat) (k : Nat) (vs : List jv) (σ : Nat → jcell) : Prop := cond (Nat.ble k 320) (rUfrrllll K n k vs σ) (rUfrrlllr K n k vs σ)
noncomputable def rUfrrllrl (K : Nat → Nat) (n : Nat) (k : Nat) (vs : List jv) (σ : Nat → jcell) : Prop := cond (Nat.beq k 322) (rb_322 K n vs σ) False
noncomputable def rUfrrllrrl (K : Nat → Nat) (n : Nat) (k : Nat) (vs : List jv) (σ : Nat → jcell) : Prop := cond (Nat.beq k 323) (rb_323 K n vs σ) False
noncomputable def rUfrrllrrr (K : Nat → Nat) (n : Nat) (k : Nat) (vs : List jv) (σ : Nat → jcell) : Prop := cond (Nat.beq k 324) (rb_324 K n vs σ) False
noncomputable def rUfrrllrr (K : Nat → Nat) (n : Nat) (k : Nat) (vs : List jv) (σ : Nat → jcell) : Prop := cond (Nat.ble k 323) (rUfrrllrrl K n k vs σ) (rUfrrllrrr K n k vs σ)
noncomputable def rUfrrllr (K : Nat → Nat) (n : Nat) (k : Nat) (vs : List jv) (σ : Nat → jcell) : Prop := cond (Nat.ble k 322) (rUfrrllrl K n k vs σ) (rUfrrllrr K n k vs σ)
noncomputable def rUfrrll (K : Nat → Nat) (n : Nat) (k : Nat) (vs : List jv) (σ : Nat → jcell) : Prop := cond (Nat.ble k 321) (rUfrrlll K n k vs σ) (rUfrrllr K n k vs σ)
noncomputable def rUfrrlrll (K : Nat → Nat) (n : Nat) (k : Nat) (vs : List jv) (σ : Nat → jcell) : Prop := cond (Nat.beq k 325) (rb_325 K n vs σ) False
noncomputable def rUfrrlrlrl (K : Nat → Nat) (n : Nat) (k : Nat) (vs : List jv) (σ : Nat → jcell) : Prop := cond (Nat.beq k 326) (rb_326 K n vs σ) False
noncomputable def rUfrrlrlrr (K : Nat → Nat) (n : Nat) (k : Nat) (vs : List jv) (σ : Nat → jcell) : Prop := cond (Nat.beq k 327) (rb_327 K n vs σ) False
noncomputable def rUfrrlrlr (K : Nat → Nat) (n : Nat) (k : Nat) (vs : List jv) (σ : Nat → jcell) : Prop := cond (Nat.ble k 326) (rUfrrlrlrl K n k vs σ) (rUfrrlrlrr K n k vs σ)
noncomputable def rUfrrlrl (K : Nat → Nat) (n : Nat) (k : Nat) (vs : List jv) (σ : Nat → jcell) : Prop := cond (Nat.ble k 325) (rUfrrlrll K n k vs σ) (rUfrrlrlr K n k vs σ)
noncomputable def rUfrrlrrl (K : Nat → Nat) (n : Nat) (k : Nat) (vs : List jv) (σ : Nat → jcell) : Prop := cond (Nat.beq k 328) (rb_328 K n vs σ) False
noncomputable def rUfrrlrrrl (K : Nat → Nat) (n : Nat) (k : Nat) (vs : List jv) (σ : Nat → jcell) : Prop := cond (Nat.beq k 329) (rb_329 K n vs σ) False
noncomputable def rUfrrlrrrr (K : Nat → Nat) (n : Nat) (k : Nat) (vs : List jv) (σ : Nat → jcell) : Prop := cond (Nat.beq k 330) (rb_330 K n vs σ) False
noncomputable def rUfrrlrrr (K : Nat → Nat) (n : Nat) (k : Nat) (vs : List jv) (σ : Nat → jcell) : Prop := cond (Nat.ble k 329) (rUfrrlrrrl K n k vs σ) (rUfrrlrrrr K n k vs σ)
noncomputable def rUfrrlrr (K : Nat → Nat) (n : Nat) (k : Nat) (vs : List jv) (σ : Nat → jcell) : Prop := cond (Nat.ble k 328) (rUfrrlrrl K n k vs σ) (rUfrrlrrr K n k vs σ)
noncomputable def rUfrrlr (K : Nat → Nat) (n : Nat) (k : Nat) (vs : List jv) (σ : Nat → jcell) : Prop := cond (Nat.ble k 327) (rUfrrlrl K n k vs σ) (rUfrrlrr K n k vs σ)
noncomputable def rUfrrl (K : Nat → Nat) (n : Nat) (k : Nat) (vs : List jv) (σ : Nat → jcell) : Prop := cond (Nat.ble k 324) (rUfrrll K n k vs σ) (rUfrrlr K n k vs σ)
noncomputable def rUfrrrlll (K : Nat → Nat) (n : Nat) (k : Nat) (vs : List jv) (σ : Nat → jcell) : Prop := cond (Nat.beq k 331) (rb_331 K n vs σ) False
noncomputable def rUfrrrllr (K : Nat → Nat) (n : Nat) (k : Nat) (vs : List jv) (σ : Nat → jcell) : Prop := cond (Nat.beq k 332) (rb_332 K n vs σ) False
noncomputable def rUfrrrll (K : Nat → Nat) (n : Nat) (k : Nat) (vs : List jv) (σ : Nat → jcell) : Prop := cond (Nat.ble k 331) (rUfrrrlll K n k vs σ) (rUfrrrllr K n k vs σ)
noncomputable def rUfrrrlrl (K : Nat → Nat) (n : Nat) (k : Nat) (vs : List jv) (σ : Nat → jcell) : Prop := cond (Nat.beq k 333) (rb_333 K n vs σ) False
noncomputable def rUfrrrlrrl (K : Nat → Nat) (n : Nat) (k : Nat) (vs : List jv) (σ : Nat → jcell) : Prop := cond (Nat.beq k 334) (rb_334 K n vs σ) False
noncomputable def rUfrrrlrrr (K : Nat → Nat) (n : Nat) (k : Nat) (vs : List jv) (σ : Nat → jcell) : Prop := cond (Nat.beq k 335) (rb_335 K n vs σ) False
noncomputable def rUfrrrlrr (K : Nat → Nat) (n : Nat) (k : Nat) (vs : List jv) (σ : Nat → jcell) : Prop := cond (Nat.ble k 334) (rUfrrrlrrl K n k vs σ) (rUfrrrlrrr K n k vs σ)
noncomputable def rUfrrrlr (K : Nat → Nat) (n : Nat) (k : Nat) (vs : List jv) (σ : Nat → jcell) : Prop := cond (Nat.ble k 333) (rUfrrrlrl K n k vs σ) (rUfrrrlrr K n k vs σ)
noncomputable def rUfrrrl (K : Nat → Nat) (n : Nat) (k : Nat) (vs : List jv) (σ : Nat → jcell) : Prop := cond (Nat.ble k 332) (rUfrrrll K n k vs σ) (rUfrrrlr K n k vs σ)
noncomputable def rUfrrrrll (K : Nat → Nat) (n : Nat) (k : Nat) (vs : List jv) (σ : Nat → jcell) : Prop := cond (Nat.beq k 336) (rb_336 K n vs σ) False
noncomputable def rUfrrrrlrl (K : Nat → Nat) (n : Nat) (k : Nat) (vs : List jv) (σ : Nat → jcell) : Prop := cond (Nat.beq k 337) (rb_337 K n vs σ) False
noncomputable def rUfrrrrlrr (K : Nat → Nat) (n : Nat) (k : Nat) (vs : List jv) (σ : Nat → jcell) : Prop := cond (Nat.beq k 338) (rb_338 K n vs σ) False
noncomputable def rUfrrrrlr (K : Nat → Nat) (n : Nat) (k : Nat) (vs : List jv) (σ : Nat → jcell) : Prop := cond (Nat.ble k 337) (rUfrrrrlrl K n k vs σ) (rUfrrrrlrr K n k vs σ)
noncomputable def rUfrrrrl (K : Nat → Nat) (n : Nat) (k : Nat) (vs : List jv) (σ : Nat → jcell) : Prop := cond (Nat.ble k 336) (rUfrrrrll K n k vs σ) (rUfrrrrlr K n k vs σ)
noncomputable def rUfrrrrrl (K : Nat → Nat) (n : Nat) (k : Nat) (vs : List jv) (σ : Nat → jcell) : Prop := cond (Nat.beq k 339) (rb_339 K n vs σ) False
noncomputable def rUfrrrrrrl (K : Nat → Nat) (n : Nat) (k : Nat) (vs : List jv) (σ : Nat → jcell) : Prop := cond (Nat.beq k 340) (rb_340 K n vs σ) False
noncomputable def rUfrrrrrrr (K : Nat → Nat) (n : Nat) (k : Nat) (vs : List jv) (σ : Nat → jcell) : Prop := cond (Nat.beq k 341) (rb_341 K n vs σ) False
noncomputable def rUfrrrrrr (K : Nat → Nat) (n : Nat) (k : Nat) (vs : List jv) (σ : Nat → jcell) : Prop := cond (Nat.ble k 340) (rUfrrrrrrl K n k vs σ) (rUfrrrrrrr K n k vs σ)
noncomputable def rUfrrrrr (K : Nat → Nat) (n : Nat) (k : Nat) (vs : List jv) (σ : Nat → jcell) : Prop := cond (Nat.ble k 339) (rUfrrrrrl K n k vs σ) (rUfrrrrrr K n k vs σ)
noncomputable def rUfrrrr (K : Nat → Nat) (n : Nat) (k : Nat) (vs : List jv) (σ : Nat → jcell) : Prop := cond (Nat.ble k 338) (rUfrrrrl K n k vs σ) (rUfrrrrr K n k vs σ)
noncomputable def rUfrrr (K : Nat → Nat) (n : Nat) (k : Nat) (vs : List jv) (σ : Nat → jcell) : Prop := cond (Nat.ble k 335) (rUfrrrl K n k vs σ) (rUfrrrr K n k vs σ)
noncomputable def rUfrr (K : Nat → Nat) (n : Nat) (k : Nat) (vs : List jv) (σ : Nat → jcell) : Prop := cond (Nat.ble k 330) (rUfrrl K n k vs σ) (rUfrrr K n k vs σ)
noncomputable def rUfr (K : Nat → Nat) (n : Nat) (k : Nat) (vs : List jv) (σ : Nat → jcell) : Prop := cond (Nat.ble k 319) (rUfrl K n k vs σ) (rUfrr K n k vs σ)
noncomputable def rUf (K : Nat → Nat) (n : Nat) (k : Nat) (vs : List jv) (σ : Nat → jcell) : Prop := cond (Nat.ble k 290) (rUfl K n k vs σ) (rUfr K n k vs σ)
noncomputable def rUg (K : Nat → Nat) (n : Nat) (p : rP) (k : Nat) (vs : List jv) (σ : Nat → jcell) : Prop := cond (Nat.beq k 449) (rb_449 K n p vs σ) False
noncomputable def rB2 (K : Nat → Nat) (n : Nat) (p : rP) (k : Nat) (vs : List jv) (σ : Nat → jcell) : Prop := cond (Nat.ble 1000 k) False (cond (Nat.ble 449 k) (rUg K n p k vs σ) (cond (Nat.ble 237 k) (cond (Nat.ble k 399) (rUf K n k vs σ) (rB K n p k vs σ)) (rB K n p k vs σ)))
noncomputable abbrev rG (K : Nat → Nat) (n : Nat) : aFt rP := rFF (rB2 K n) rS1
theorem rB2_fre (K : Nat → Nat) (n : Nat) (p p' : rP) (k : Nat) (vs : List jv) (σ : Nat → jcell) (h1 : 100 ≤ k) (h2 : k < 400) (h : rB2 K n p k vs σ) : rB2 K n p' k vs σ := by
  unfold rB2 at h ⊢
  rw [show Nat.ble 1000 k = false from Bool.eq_false_iff.mpr (fun h9 => by have := Nat.le_of_ble_eq_true h9; omega), show Nat.ble 449 k = false from Bool.eq_false_iff.mpr (fun h9 => by have := Nat.le_of_ble_eq_true h9; omega), show Nat.ble k 399 = true from Nat.ble_eq_true_of_le (by omega)] at h ⊢
  cases c : Nat.ble 237 k with
  | true => rw [c] at h; exact h
  | false => rw [c] at h; exact rB_fre K n p p' k vs σ h1 h2 h
noncomputable def rOk (k : Nat) : Bool := Nat.ble k 236 || (Nat.ble 400 k && Nat.ble k 448)
theorem rB2_o {K : Nat → Nat} {n : Nat} {p : rP} {k : Nat} {vs : List jv} {σ : Nat → jcell} (h : rOk k = true) : rB2 K n p k vs σ ↔ rB K n p k vs σ := by
  have h2 : k ≤ 236 ∨ (400 ≤ k ∧ k ≤ 448) := by
    unfold rOk at h
    rw [Bool.or_eq_true, Bool.and_eq_true] at h
    rcases h with h | ⟨h, h'⟩
    · exact Or.inl (Nat.le_of_ble_eq_true h)
    · exact Or.inr ⟨Nat.le_of_ble_eq_true h, Nat.le_of_ble_eq_true h'⟩
  unfold rB2
  rw [show Nat.ble 1000 k = false from Bool.eq_false_iff.mpr (fun h9 => by have := Nat.le_of_ble_eq_true h9; omega), show Nat.ble 449 k = false from Bool.eq_false_iff.mpr (fun h9 => by have := Nat.le_of_ble_eq_true h9; omega)]
  rcases h2 with h2 | h2
  · rw [show Nat.ble 237 k = false from Bool.eq_false_iff.mpr (fun h9 => by have := Nat.le_of_ble_eq_true h9; omega)]
    exact Iff.rfl
  · rw [show Nat.ble 237 k = true from Nat.ble_eq_true_of_le (by omega), show Nat.ble k 399 = false from Bool.eq_false_iff.mpr (fun h9 => by have := Nat.le_of_ble_eq_true h9; omega)]
    exact Iff.rfl
noncomputable def rOkr (r : Nat) : Bool := if r < 65536 then rOk (r / 16) else if r < 131072 then rOk ((r - 65539) / 16) else rOk ((r % 131072 - 2) / 16)
theorem rFG {K : Nat → Nat} {n : Nat} {p : rP} {r : Nat} {vs : List jv} {σ : Nat → jcell} (h : rOkr r = true) : rF K n p r vs σ ↔ rG K n p r vs σ := by
  unfold rOkr at h
  unfold rF rG rFF
  split
  next c =>
    rw [if_pos c] at h
    exact (rB2_o h).symm
  next c =>
    rw [if_neg c] at h
    split
    next c2 =>
      rw [if_pos c2] at h
      split
      next =>
        split
        · exact (rB2_o h).symm
        · exact (rB2_o h).symm
        · exact Iff.rfl
      next => exact Iff.rfl
    next c2 =>
      rw [if_neg c2] at h
      split
      next =>
        split
        · exact (rB2_o h).symm
        · exact Iff.rfl
      next => exact Iff.rfl
/-- a rule of the first table is one of the second -/
theorem rG_of {K : Nat → Nat} {n : Nat} {JX : (Nat → jcell) → Prop} {G : aCon} (h : (G.2.2.2.1.2.2.2.2.all (fun q => rOkr q.1) && G.2.2.2.2.1.2.2.1.2.2.2.all (fun q => rOkr q.1)) = true) (hg : aGho (rF K n) fa_T K n JX G) : aGho (rG K n) fa_T K n JX G := by
  rw [Bool.and_eq_true, List.all_eq_true, List.all_eq_true] at h
  intro p σ ρ hH hX hA hM
  obtain ⟨m1, m2, m3, m4⟩ := hM
  obtain ⟨p', xs, e1, e2, ⟨n1, n2, n3, n4⟩, e3⟩ := hg p σ ρ hH hX hA ⟨m1, m2, m3, fun q hq => by
    obtain ⟨w, a1, a2⟩ := m4 q hq
    exact ⟨w, a1, (rFG (h.1 q hq)).mpr a2⟩⟩
  exact ⟨p', xs, e1, e2, ⟨n1, n2, n3, fun q hq => by
    obtain ⟨w, a1, a2⟩ := n4 q hq
    exact ⟨w, a1, (rFG (h.2 q hq)).mp a2⟩⟩, e3⟩
theorem ro2_22 {K : Nat → Nat} {n : Nat} {p : rP} {x0 : Nat} {σ : Nat → jcell} : rB2 K n p 22 [rR x0] σ ↔ (p.2 = none ∧ rRX K n σ x0 p.1) := (rB2_o (k := 22) rfl).trans ro_22
theorem ro2_24 {K : Nat → Nat} {n : Nat} {p : rP}  {σ : Nat → jcell} : rB2 K n p 24 [] σ ↔ (rGd p.1) := (rB2_o (k := 24) rfl).trans ro_24
theorem ro2_25 {K : Nat → Nat} {n : Nat} {p : rP} {x0 : Int32} {σ : Nat → jcell} : rB2 K n p 25 [rI x0] σ ↔ (rLm p.1 x0.toInt) := (rB2_o (k := 25) rfl).trans ro_25
theorem ro2_67 {K : Nat → Nat} {n : Nat} {p : rP} {x0 : Int32} {σ : Nat → jcell} : rB2 K n p 67 [rI x0] σ ↔ (x0.toInt = p.1.2.1) := (rB2_o (k := 67) rfl).trans ro_67
theorem ro2_95 {K : Nat → Nat} {n : Nat} {p : rP}  {σ : Nat → jcell} : rB2 K n p 95 [] σ ↔ (∃ m, rLm p.1 m ∧ rGd (rMk p.1 m)) := (rB2_o (k := 95) rfl).trans ro_95
theorem ro2_96 {K : Nat → Nat} {n : Nat} {p : rP} {x0 : Nat} {x1 : Int32} {σ : Nat → jcell} : rB2 K n p 96 [rR x0, rI x1] σ ↔ (∃ g a, (rRw K n σ x0 105 4 g ∨ rRw K n σ x0 107 4 g) ∧ rLn a p g 0 x1.toInt.toNat) := (rB2_o (k := 96) rfl).trans ro_96
theorem ro2_97_4 {K : Nat → Nat} {n : Nat} {p : rP} {x0 : Nat} {x1 : Int32} {x2 : Int32} {x3 : Int32} {σ : Nat → jcell} : rB2 K n p 97 [rR x0, rI x1, rI x2, rI x3] σ ↔ (x3.toInt = 1 → ∃ g, rRo K n σ x0 88 33 107 4 g ∧ rLn x0 p g x1.toInt.toNat x2.toInt.toNat) := (rB2_o (k := 97) rfl).trans ro_97_4
theorem ro2_100 {K : Nat → Nat} {n : Nat} {p : rP} {x0 : jv} {x1 : jv} {x2 : jv} {σ : Nat → jcell} : rB2 K n p 100 [x0, x1, x2] σ ↔ (aOv 0 x0 x1 x2) := (rB2_o (k := 100) rfl).trans ro_100
theorem ro2_102 {K : Nat → Nat} {n : Nat} {p : rP} {x0 : jv} {x1 : jv} {x2 : jv} {σ : Nat → jcell} : rB2 K n p 102 [x0, x1, x2] σ ↔ (aOv 2 x0 x1 x2) := (rB2_o (k := 102) rfl).trans ro_102
theorem ro2_104 {K : Nat → Nat} {n : Nat} {p : rP} {x0 : jv} {x1 : jv} {x2 : jv} {σ : Nat → jcell} : rB2 K n p 104 [x0, x1, x2] σ ↔ (aOv 4 x0 x1 x2) := (rB2_o (k := 104) rfl).trans ro_104
theorem ro2_105 {K : Nat → Nat} {n : Nat} {p : rP} {x0 : jv} {x1 : jv} {x2 : jv} {σ : Nat → jcell} : rB2 K n p 105 [x0, x1, x2] σ ↔ (aOv 5 x0 x1 x2) := (rB2_o (k := 105) rfl).trans ro_105
theorem ro2_106 {K : Nat → Nat} {n : Nat} {p : rP} {x0 : jv} {x1 : jv} {x2 : jv} {σ : Nat → jcell} : rB2 K n p 106 [x0, x1, x2] σ ↔ (aOv 6 x0 x1 x2) := (rB2_o (k := 106) rfl).trans ro_106
theorem ro2_108 {K : Nat → Nat} {n : Nat} {p : rP} {x0 : jv} {x1 : jv} {x2 : jv} {σ : Nat → jcell} : rB2 K n p 108 [x0, x1, x2] σ ↔ (aOv 8 x0 x1 x2) := (rB2_o (k := 108) rfl).trans ro_108
theorem ro2_117 {K : Nat → Nat} {n : Nat} {p : rP} {x0 : jv} {x1 : jv} {x2 : jv} {σ : Nat → jcell} : rB2 K n p 117 [x0, x1, x2] σ ↔ (aOv 17 x0 x1 x2) := (rB2_o (k := 117) rfl).trans ro_117
theorem ro2_120 {K : Nat → Nat} {n : Nat} {p : rP} {x0 : Int32} {x1 : Int32} {x2 : Int32} {x3 : Int32} {σ : Nat → jcell} : rB2 K n p 120 [rI x0, rI x1, rI x2, rI x3] σ ↔ (x3.toInt = rSp x0.toInt x1.toInt x2.toInt) := (rB2_o (k := 120) rfl).trans ro_120
theorem ro2_147 {K : Nat → Nat} {n : Nat} {p : rP} {x0 : Int32} {x1 : Int32} {σ : Nat → jcell} : rB2 K n p 147 [rI x0, rI x1] σ ↔ (x1.toInt = x0.toInt % 8) := (rB2_o (k := 147) rfl).trans ro_147
theorem ro2_157 {K : Nat → Nat} {n : Nat} {p : rP} {x0 : Int32} {x1 : Int32} {σ : Nat → jcell} : rB2 K n p 157 [rI x0, rI x1] σ ↔ (x1.toInt = x0.toInt / 8) := (rB2_o (k := 157) rfl).trans ro_157
theorem ro2_170 {K : Nat → Nat} {n : Nat} {p : rP} {x0 : Nat} {x1 : Int32} {σ : Nat → jcell} : rB2 K n p 170 [rR x0, rI x1] σ ↔ (rPG0 K n σ x0 x1.toInt) := (rB2_o (k := 170) rfl).trans ro_170
theorem ro2_171 {K : Nat → Nat} {n : Nat} {p : rP} {x0 : Nat} {x1 : Int32} {σ : Nat → jcell} : rB2 K n p 171 [rR x0, rI x1] σ ↔ (rPG0 K n σ x0 (x1.toInt + 1)) := (rB2_o (k := 171) rfl).trans ro_171
theorem ro2_184 {K : Nat → Nat} {n : Nat} {p : rP} {x0 : Nat} {x1 : Int32} {σ : Nat → jcell} : rB2 K n p 184 [rR x0, rI x1] σ ↔ (∃ g, rRw K n σ x0 105 4 g ∧ (g 0).toInt = x1.toInt) := (rB2_o (k := 184) rfl).trans ro_184
theorem ro2_185 {K : Nat → Nat} {n : Nat} {p : rP} {x0 : Nat} {x1 : Int32} {σ : Nat → jcell} : rB2 K n p 185 [rR x0, rI x1] σ ↔ (∃ g, rRw K n σ x0 105 4 g ∧ (g 1).toInt = x1.toInt) := (rB2_o (k := 185) rfl).trans ro_185
theorem ro2_186 {K : Nat → Nat} {n : Nat} {p : rP} {x0 : Nat} {x1 : Int32} {σ : Nat → jcell} : rB2 K n p 186 [rR x0, rI x1] σ ↔ (∃ g, rRw K n σ x0 105 4 g ∧ (g 2).toInt = x1.toInt) := (rB2_o (k := 186) rfl).trans ro_186
theorem ro2_187 {K : Nat → Nat} {n : Nat} {p : rP} {x0 : Nat} {x1 : Int32} {σ : Nat → jcell} : rB2 K n p 187 [rR x0, rI x1] σ ↔ (∃ g, rRw K n σ x0 105 4 g ∧ (g 3).toInt = x1.toInt) := (rB2_o (k := 187) rfl).trans ro_187
theorem ro2_197 {K : Nat → Nat} {n : Nat} {p : rP} {x0 : Nat} {x1 : Int32} {σ : Nat → jcell} : rB2 K n p 197 [rR x0, rI x1] σ ↔ (x1.toInt = 0 → rFO K n σ x0) := (rB2_o (k := 197) rfl).trans ro_197
theorem ro2_215 {K : Nat → Nat} {n : Nat} {p : rP} {x0 : Nat} {x1 : Int32} {x2 : Int32} {σ : Nat → jcell} : rB2 K n p 215 [rR x0, rI x1, rI x2] σ ↔ (∃ M, rTe K n σ x0 M ∧ (x2.toInt = 0 → (∀ j, 0 ≤ j → j ≤ 63 → M j = 8 * x1.toInt + 6 → ∃ s, 0 ≤ s ∧ s ≤ 63 ∧ M s = 8 * x1.toInt + 6 ∧ ¬ rAk M s (1 - x1.toInt)))) := (rB2_o (k := 215) rfl).trans ro_215
theorem ro2_218 {K : Nat → Nat} {n : Nat} {p : rP} {x0 : Int32} {x1 : Int32} {σ : Nat → jcell} : rB2 K n p 218 [rI x0, rI x1] σ ↔ (x1.toInt = x0.toInt % 8) := (rB2_o (k := 218) rfl).trans ro_218
theorem ro2_220 {K : Nat → Nat} {n : Nat} {p : rP} {x0 : Nat} {σ : Nat → jcell} : rB2 K n p 220 [rR x0] σ ↔ (∃ v : Int32, rOb K n σ x0 62 29 (rI v) ∧ 0 ≤ v.toInt ∧ v.toInt ≤ 1298) := (rB2_o (k := 220) rfl).trans ro_220
theorem ro2_225 {K : Nat → Nat} {n : Nat} {p : rP} {x0 : Int32} {x1 : Int32} {σ : Nat → jcell} : rB2 K n p 225 [rI x0, rI x1] σ ↔ (¬ x0.toInt = x1.toInt) := (rB2_o (k := 225) rfl).trans ro_225
theorem ro2_226 {K : Nat → Nat} {n : Nat} {p : rP} {x0 : Int32} {x1 : Int32} {x2 : Int32} {x3 : Int32} {σ : Nat → jcell} : rB2 K n p 226 [rI x0, rI x1, rI x2, rI x3] σ ↔ (x2.toInt = x1.toInt % 8 - x0.toInt % 8 ∧ x3.toInt = x1.toInt / 8 - x0.toInt / 8) := (rB2_o (k := 226) rfl).trans ro_226
theorem ro2_228 {K : Nat → Nat} {n : Nat} {p : rP} {x0 : Int32} {x1 : Int32} {x2 : Int32} {σ : Nat → jcell} : rB2 K n p 228 [rI x0, rI x1, rI x2] σ ↔ (x2.toInt = x0.toInt * x0.toInt + x1.toInt * x1.toInt) := (rB2_o (k := 228) rfl).trans ro_228
theorem ro2_237 {K : Nat → Nat} {n : Nat} {p : rP} {x0 : Nat} {x1 : Int32} {x2 : Int32} {σ : Nat → jcell} : rB2 K n p 237 [rR x0, rI x1, rI x2] σ ↔ (x2.toInt = 1 → ∃ g c, rRo K n σ x0 62 32 85 2048 g ∧ rOb K n σ x0 62 33 (rI c) ∧ ∃ j, 0 ≤ j ∧ j < c.toInt ∧ (g j.toNat).toInt = x1.toInt) := Iff.rfl
theorem ro2_238 {K : Nat → Nat} {n : Nat} {p : rP} {x0 : Nat} {x1 : Int32} {x2 : Int32} {σ : Nat → jcell} : rB2 K n p 238 [rR x0, rI x1, rI x2] σ ↔ (∃ C y, rTY K n σ x0 x1.toInt C y ∧ (0 ≤ x2.toInt → x2.toInt ≤ C)) := Iff.rfl
theorem ro2_241 {K : Nat → Nat} {n : Nat} {p : rP} {x0 : Nat} {x1 : Int32} {x2 : Int32} {σ : Nat → jcell} : rB2 K n p 241 [rR x0, rI x1, rI x2] σ ↔ (∃ C y, rTY K n σ x0 x1.toInt C y ∧ (0 ≤ x2.toInt ∧ x2.toInt ≤ C)) := Iff.rfl
theorem ro2_242 {K : Nat → Nat} {n : Nat} {p : rP} {x0 : Nat} {x1 : Int32} {x2 : Int32} {x3 : Int32} {σ : Nat → jcell} : rB2 K n p 242 [rR x0, rI x1, rI x2, rI x3] σ ↔ (∃ C y, rTY K n σ x0 x1.toInt C y ∧ (∃ L, rCn y.2.2.2.1 x2.toInt L ∧ (∀ c ∈ L, 1 ≤ c ∧ c ≤ C) ∧ (L.length : Int) = x3.toInt)) := Iff.rfl
theorem ro2_243 {K : Nat → Nat} {n : Nat} {p : rP} {x0 : Nat} {x1 : Int32} {x2 : Int32} {x3 : Int32} {σ : Nat → jcell} : rB2 K n p 243 [rR x0, rI x1, rI x2, rI x3] σ ↔ (∃ C y, rTY K n σ x0 x1.toInt C y ∧ (y.1 x2.toInt = x3.toInt)) := Iff.rfl
theorem ro2_245 {K : Nat → Nat} {n : Nat} {p : rP} {x0 : Nat} {x1 : Int32} {x2 : Int32} {σ : Nat → jcell} : rB2 K n p 245 [rR x0, rI x1, rI x2] σ ↔ (rSL9 K n σ x0 x1.toInt x2.toInt) := Iff.rfl
theorem ro2_246 {K : Nat → Nat} {n : Nat} {p : rP} {x0 : Nat} {x1 : Int32} {x2 : Int32} {x3 : Int32} {x4 : Int32} {σ : Nat → jcell} : rB2 K n p 246 [rR x0, rI x1, rI x2, rI x3, rI x4] σ ↔ (∃ C y, rTY K n σ x0 x1.toInt C y ∧ 0 ≤ x2.toInt ∧ x2.toInt ≤ C ∧ 0 ≤ x3.toInt ∧ rPth K n σ x0 y x2.toInt x3.toInt ∧ x4.toInt = rUa y.1 x3.toInt.toNat x2.toInt ∧ 0 ≤ x4.toInt ∧ x4.toInt ≤ C) := Iff.rfl
theorem ro2_247 {K : Nat → Nat} {n : Nat} {p : rP} {x0 : Nat} {x1 : Int32} {x2 : Int32} {x3 : Int32} {x4 : Int32} {σ : Nat → jcell} : rB2 K n p 247 [rR x0, rI x1, rI x2, rI x3, rI x4] σ ↔ (∃ C y, rTY K n σ x0 x1.toInt C y ∧ 0 ≤ x2.toInt ∧ x2.toInt ≤ C ∧ 0 ≤ x3.toInt ∧ rPth K n σ x0 y x2.toInt (x3.toInt + 1) ∧ x4.toInt = rUa y.1 x3.toInt.toNat x2.toInt ∧ 1 ≤ x4.toInt ∧ x4.toInt ≤ C) := Iff.rfl
theorem ro2_248 {K : Nat → Nat} {n : Nat} {p : rP} {x0 : Nat} {x1 : Int32} {x2 : Int32} {σ : Nat → jcell} : rB2 K n p 248 [rR x0, rI x1, rI x2] σ ↔ (0 ≤ x1.toInt ∧ ∃ g5 gm, rRo K n σ x0 62 16 74 128 g5 ∧ rRo K n σ x0 62 24 82 64 gm ∧ ∀ j, 0 ≤ j → j < x2.toInt → j ≤ 63 → (gm j.toNat).toInt = (g5 (64 * x1.toInt + j).toNat).toInt) := Iff.rfl
theorem ro2_249 {K : Nat → Nat} {n : Nat} {p : rP} {x0 : Nat} {x1 : Int32} {x2 : Int32} {σ : Nat → jcell} : rB2 K n p 249 [rR x0, rI x1, rI x2] σ ↔ (0 ≤ x1.toInt ∧ ∃ g5 gm, rRo K n σ x0 62 16 74 128 g5 ∧ rRo K n σ x0 62 24 82 64 gm ∧ ∀ j, 0 ≤ j → j < x2.toInt + 1 → j ≤ 63 → (gm j.toNat).toInt = (g5 (64 * x1.toInt + j).toNat).toInt) := Iff.rfl
theorem ro2_250 {K : Nat → Nat} {n : Nat} {p : rP} {x0 : Nat} {x1 : Int32} {x2 : Int32} {x3 : Int32} {x4 : Int32} {σ : Nat → jcell} : rB2 K n p 250 [rR x0, rI x1, rI x2, rI x3, rI x4] σ ↔ (∃ C y, rTY K n σ x0 x1.toInt C y ∧ 0 ≤ x2.toInt ∧ x2.toInt ≤ C ∧ 0 ≤ x3.toInt ∧ rPth K n σ x0 y x2.toInt x3.toInt ∧ rUa y.1 x3.toInt.toNat x2.toInt = 0 ∧ -1 ≤ x4.toInt ∧ x4.toInt < x3.toInt ∧ rTX K n σ x0 (rPo y (rUa y.1 (x4.toInt + 1).toNat x2.toInt))) := Iff.rfl
theorem ro2_251 {K : Nat → Nat} {n : Nat} {p : rP} {x0 : Nat} {x1 : Int32} {x2 : Int32} {x3 : Int32} {x4 : Int32} {σ : Nat → jcell} : rB2 K n p 251 [rR x0, rI x1, rI x2, rI x3, rI x4] σ ↔ (∃ C y, rTY K n σ x0 x1.toInt C y ∧ 0 ≤ x2.toInt ∧ x2.toInt ≤ C ∧ 0 ≤ x3.toInt ∧ rPth K n σ x0 y x2.toInt x3.toInt ∧ rUa y.1 x3.toInt.toNat x2.toInt = 0 ∧ 0 ≤ x4.toInt ∧ x4.toInt < x3.toInt ∧ rTX K n σ x0 (rPo y (rUa y.1 x4.toInt.toNat x2.toInt))) := Iff.rfl
theorem ro2_252 {K : Nat → Nat} {n : Nat} {p : rP} {x0 : Nat} {x1 : Int32} {x2 : Int32} {x3 : Int32} {x4 : Int32} {σ : Nat → jcell} : rB2 K n p 252 [rR x0, rI x1, rI x2, rI x3, rI x4] σ ↔ (∃ C y, rTY K n σ x0 x1.toInt C y ∧ 0 ≤ x2.toInt ∧ x2.toInt ≤ C ∧ 0 ≤ x3.toInt ∧ rPth K n σ x0 y x2.toInt x3.toInt ∧ rUa y.1 x3.toInt.toNat x2.toInt = 0) := Iff.rfl
theorem ro2_253 {K : Nat → Nat} {n : Nat} {p : rP} {x0 : Nat} {x1 : Int32} {x2 : Int32} {σ : Nat → jcell} : rB2 K n p 253 [rR x0, rI x1, rI x2] σ ↔ (∃ C y, rTY K n σ x0 x1.toInt C y ∧ (y.2.2.2.2.1.2.1 = x2.toInt)) := Iff.rfl
theorem ro2_254 {K : Nat → Nat} {n : Nat} {p : rP} {x0 : Nat} {x1 : Int32} {x2 : Int32} {σ : Nat → jcell} : rB2 K n p 254 [rR x0, rI x1, rI x2] σ ↔ (∃ C y, rTY K n σ x0 x1.toInt C y ∧ (y.2.2.2.2.1.2.2.1 = x2.toInt)) := Iff.rfl
theorem ro2_255 {K : Nat → Nat} {n : Nat} {p : rP} {x0 : Nat} {x1 : Int32} {x2 : Int32} {σ : Nat → jcell} : rB2 K n p 255 [rR x0, rI x1, rI x2] σ ↔ (∃ C y, rTY K n σ x0 x1.toInt C y ∧ (y.2.2.2.2.1.2.2.2 = x2.toInt)) := Iff.rfl
theorem ro2_256 {K : Nat → Nat} {n : Nat} {p : rP} {x0 : Nat} {x1 : Int32} {σ : Nat → jcell} : rB2 K n p 256 [rR x0, rI x1] σ ↔ (0 ≤ x1.toInt ∧ ∃ g, rRo K n σ x0 62 10 68 602 g ∧ (g x1.toInt.toNat).toInt = -1) := Iff.rfl
theorem ro2_257 {K : Nat → Nat} {n : Nat} {p : rP} {x0 : Nat} {x1 : Int32} {σ : Nat → jcell} : rB2 K n p 257 [rR x0, rI x1] σ ↔ (0 ≤ x1.toInt ∧ ∃ g, rRo K n σ x0 62 11 69 602 g ∧ (g x1.toInt.toNat).toInt = -1) := Iff.rfl
theorem ro2_258 {K : Nat → Nat} {n : Nat} {p : rP} {x0 : Nat} {x1 : Int32} {x2 : Int32} {x3 : Int32} {x4 : Int32} {σ : Nat → jcell} : rB2 K n p 258 [rR x0, rI x1, rI x2, rI x3, rI x4] σ ↔ (∃ y, rTy K n σ x0 x1.toInt y ∧ 0 ≤ x1.toInt ∧ 1 ≤ x4.toInt ∧ x4.toInt ≤ 300 ∧ rTr (x4.toInt - 1) y ∧ 0 ≤ x2.toInt ∧ x2.toInt ≤ x4.toInt - 1 ∧ rLm (rPo y x2.toInt) x3.toInt ∧ rGd (rMk (rPo y x2.toInt) x3.toInt)) := Iff.rfl
theorem ro2_259 {K : Nat → Nat} {n : Nat} {p : rP} {x0 : Nat} {x1 : Int32} {x2 : Int32} {x3 : Int32} {σ : Nat → jcell} : rB2 K n p 259 [rR x0, rI x1, rI x2, rI x3] σ ↔ (0 ≤ 301 * x1.toInt + x2.toInt ∧ ∃ g, rRo K n σ x0 62 8 66 602 g ∧ (g (301 * x1.toInt + x2.toInt).toNat).toInt = x3.toInt) := Iff.rfl
theorem ro2_260 {K : Nat → Nat} {n : Nat} {p : rP} {x0 : Nat} {x1 : Int32} {x2 : Int32} {x3 : Int32} {σ : Nat → jcell} : rB2 K n p 260 [rR x0, rI x1, rI x2, rI x3] σ ↔ (0 ≤ 301 * x1.toInt + x2.toInt ∧ ∃ g, rRo K n σ x0 62 9 67 602 g ∧ (g (301 * x1.toInt + x2.toInt).toNat).toInt = x3.toInt) := Iff.rfl
theorem ro2_261 {K : Nat → Nat} {n : Nat} {p : rP} {x0 : Nat} {x1 : Int32} {x2 : Int32} {σ : Nat → jcell} : rB2 K n p 261 [rR x0, rI x1, rI x2] σ ↔ (∃ y, rTy K n σ x0 x1.toInt y ∧ 0 ≤ x1.toInt ∧ rTr x2.toInt y ∧ 1 ≤ x2.toInt) := Iff.rfl
theorem ro2_262 {K : Nat → Nat} {n : Nat} {p : rP} {x0 : Nat} {x1 : Int32} {x2 : Int32} {σ : Nat → jcell} : rB2 K n p 262 [rR x0, rI x1, rI x2] σ ↔ (0 ≤ x1.toInt ∧ ∃ g, rRo K n σ x0 62 7 65 2 g ∧ (g x1.toInt.toNat).toInt = x2.toInt) := Iff.rfl
theorem ro2_263 {K : Nat → Nat} {n : Nat} {p : rP} {x0 : Nat} {x1 : Int32} {x2 : Int32} {x3 : Int32} {x4 : Int32} {σ : Nat → jcell} : rB2 K n p 263 [rR x0, rI x1, rI x2, rI x3, rI x4] σ ↔ (∃ y, rTy K n σ x0 x1.toInt y ∧ ∃ A B, rCn y.2.2.2.1 (y.2.2.1 x2.toInt) (A ++ x3.toInt :: B) ∧ (∀ c ∈ A ++ x3.toInt :: B, 1 ≤ c) ∧ (B.length : Int) = x4.toInt) := Iff.rfl
theorem ro2_264 {K : Nat → Nat} {n : Nat} {p : rP} {x0 : Nat} {x1 : Int32} {σ : Nat → jcell} : rB2 K n p 264 [rR x0, rI x1] σ ↔ (0 ≤ x1.toInt ∧ ∃ g, rRo K n σ x0 62 7 65 2 g ∧ (g x1.toInt.toNat).toInt ≤ 299) := Iff.rfl
theorem ro2_266 {K : Nat → Nat} {n : Nat} {p : rP} {x0 : Nat} {x1 : Int32} {x2 : Int32} {x3 : Int32} {σ : Nat → jcell} : rB2 K n p 266 [rR x0, rI x1, rI x2, rI x3] σ ↔ (∃ C y, rTY K n σ x0 x1.toInt C y ∧ (rLm (rPo y x2.toInt) x3.toInt ∧ rGd (rMk (rPo y x2.toInt) x3.toInt))) := Iff.rfl
theorem ro2_270 {K : Nat → Nat} {n : Nat} {p : rP} {x0 : Int32} {σ : Nat → jcell} : rB2 K n p 270 [rI x0] σ ↔ (True) := Iff.rfl
theorem ro2_271 {K : Nat → Nat} {n : Nat} {p : rP} {x0 : Int32} {σ : Nat → jcell} : rB2 K n p 271 [rI x0] σ ↔ (True) := Iff.rfl
theorem ro2_276 {K : Nat → Nat} {n : Nat} {p : rP} {x0 : Nat} {x1 : Int32} {x2 : Int32} {x3 : Int32} {σ : Nat → jcell} : rB2 K n p 276 [rR x0, rI x1, rI x2, rI x3] σ ↔ (∃ C y, rTY K n σ x0 x1.toInt C y ∧ (1 ≤ x2.toInt ∧ x2.toInt ≤ C ∧ y.2.2.1 (y.1 x2.toInt) = x3.toInt)) := Iff.rfl
theorem ro2_277 {K : Nat → Nat} {n : Nat} {p : rP} {x0 : Nat} {x1 : Int32} {x2 : Int32} {x3 : Int32} {x4 : Int32} {σ : Nat → jcell} : rB2 K n p 277 [rR x0, rI x1, rI x2, rI x3, rI x4] σ ↔ (∃ C y, rTY K n σ x0 x1.toInt C y ∧ (1 ≤ x2.toInt ∧ x2.toInt ≤ C ∧ ∃ A B D, rCn y.2.2.2.1 (y.2.2.1 (y.1 x2.toInt)) (A ++ x3.toInt :: (B ++ x2.toInt :: D)) ∧ (∀ c ∈ A ++ x3.toInt :: (B ++ x2.toInt :: D), 1 ≤ c ∧ c ≤ C) ∧ (B.length : Int) = x4.toInt)) := Iff.rfl
theorem ro2_278 {K : Nat → Nat} {n : Nat} {p : rP} {x0 : Nat} {x1 : Int32} {x2 : Int32} {x3 : Int32} {x4 : Int32} {x5 : Int32} {σ : Nat → jcell} : rB2 K n p 278 [rR x0, rI x1, rI x2, rI x3, rI x4, rI x5] σ ↔ (∃ C y nx, rTy K n σ x0 x1.toInt y ∧ rCt9 K n σ x0 x1.toInt C ∧ rTr C (y.1, y.2.1, y.2.2.1, nx, y.2.2.2.2) ∧ 1 ≤ x2.toInt ∧ x2.toInt ≤ C ∧ y.1 x2.toInt = x3.toInt ∧ y.2.2.1 x3.toInt = x4.toInt ∧ ¬ x4.toInt = x2.toInt ∧ (∃ A B, rCn nx (y.2.2.1 x3.toInt) (A ++ x5.toInt :: x2.toInt :: B) ∧ ∀ c ∈ A ++ x5.toInt :: x2.toInt :: B, 1 ≤ c ∧ c ≤ C) ∧ ∀ k, 0 ≤ k → k ≤ C → y.2.2.2.1 k = if k = x5.toInt then nx x2.toInt else nx k) := Iff.rfl
theorem ro2_279 {K : Nat → Nat} {n : Nat} {p : rP} {x0 : Nat} {x1 : Int32} {x2 : Int32} {x3 : Int32} {x4 : Int32} {x5 : Int32} {σ : Nat → jcell} : rB2 K n p 279 [rR x0, rI x1, rI x2, rI x3, rI x4, rI x5] σ ↔ (∃ C y nx, rTy K n σ x0 x1.toInt y ∧ rCt9 K n σ x0 x1.toInt C ∧ rTr C (y.1, y.2.1, y.2.2.1, nx, y.2.2.2.2) ∧ 1 ≤ x2.toInt ∧ x2.toInt ≤ C ∧ y.1 x2.toInt = x3.toInt ∧ y.2.2.1 x3.toInt = x4.toInt ∧ ¬ x4.toInt = x2.toInt ∧ (∃ A B, rCn nx (y.2.2.1 x3.toInt) (A ++ x5.toInt :: x2.toInt :: B) ∧ ∀ c ∈ A ++ x5.toInt :: x2.toInt :: B, 1 ≤ c ∧ c ≤ C) ∧ ∀ k, 0 ≤ k → k ≤ C → y.2.2.2.1 k = if k = x2.toInt then x4.toInt else if k = x5.toInt then nx x2.toInt else nx k) := Iff.rfl
theorem ro2_280 {K : Nat → Nat} {n : Nat} {p : rP} {x0 : Nat} {x1 : Int32} {σ : Nat → jcell} : rB2 K n p 280 [rR x0, rI x1] σ ↔ (0 ≤ x1.toInt ∧ (∃ g, rRo K n σ x0 62 7 65 2 g ∧ (g x1.toInt.toNat).toInt = 0) ∧ ∃ g, rRo K n σ x0 62 10 68 602 g ∧ (g (301 * x1.toInt).toNat).toInt = -1) := Iff.rfl
theorem ro2_281 {K : Nat → Nat} {n : Nat} {p : rP} {x0 : Nat} {x1 : Int32} {σ : Nat → jcell} : rB2 K n p 281 [rR x0, rI x1] σ ↔ (∃ q z, rSt9 K n σ x0 x1.toInt q z ∧ rGd q ∧ 0 ≤ z ∧ z ≤ 999 ∧ 0 ≤ q.2.2.1 ∧ q.2.2.1 ≤ 15) := Iff.rfl
theorem ro2_282_1 {K : Nat → Nat} {n : Nat} {p : rP} {x0 : Nat} {σ : Nat → jcell} : rB2 K n p 282 [rR x0] σ ↔ (∃ q, rTX K n σ x0 q ∧ rGd q) := ⟨fun h => (fun h => Or.elim h id False.elim) (show rb_282 K n [rR x0] σ from h), fun h => Or.inl (h)⟩
theorem ro2_282_2 {K : Nat → Nat} {n : Nat} {p : rP} {x0 : Nat} {x1 : Int32} {σ : Nat → jcell} : rB2 K n p 282 [rR x0, rI x1] σ ↔ (x1.toInt = 1 → ∃ q, rTX K n σ x0 q ∧ rGd q) := ⟨fun h => (fun h => Or.elim h False.elim id) (show rb_282 K n [rR x0, rI x1] σ from h), fun h => Or.inr (h)⟩
theorem ro2_283 {K : Nat → Nat} {n : Nat} {p : rP} {x0 : Nat} {x1 : Int32} {x2 : Int32} {σ : Nat → jcell} : rB2 K n p 283 [rR x0, rI x1, rI x2] σ ↔ (0 ≤ x1.toInt ∧ ∃ g5 gm, rRo K n σ x0 62 16 74 128 g5 ∧ rRo K n σ x0 62 24 82 64 gm ∧ ∀ j, 0 ≤ j → j < x2.toInt → j ≤ 63 → (g5 (64 * x1.toInt + j).toNat).toInt = (gm j.toNat).toInt) := Iff.rfl
theorem ro2_284 {K : Nat → Nat} {n : Nat} {p : rP} {x0 : Nat} {x1 : Int32} {x2 : Int32} {σ : Nat → jcell} : rB2 K n p 284 [rR x0, rI x1, rI x2] σ ↔ (0 ≤ x1.toInt ∧ ∃ g5 gm, rRo K n σ x0 62 16 74 128 g5 ∧ rRo K n σ x0 62 24 82 64 gm ∧ ∀ j, 0 ≤ j → j < x2.toInt + 1 → j ≤ 63 → (g5 (64 * x1.toInt + j).toNat).toInt = (gm j.toNat).toInt) := Iff.rfl
theorem ro2_285 {K : Nat → Nat} {n : Nat} {p : rP} {x0 : Nat} {x1 : Int32} {σ : Nat → jcell} : rB2 K n p 285 [rR x0, rI x1] σ ↔ (∃ g, rRo K n σ x0 62 24 82 64 g ∧ ∀ j, 0 ≤ j → j < x1.toInt → j ≤ 63 → (g j.toNat).toInt = 0) := Iff.rfl
theorem ro2_286 {K : Nat → Nat} {n : Nat} {p : rP} {x0 : Nat} {x1 : Int32} {σ : Nat → jcell} : rB2 K n p 286 [rR x0, rI x1] σ ↔ (∃ g, rRo K n σ x0 62 24 82 64 g ∧ ∀ j, 0 ≤ j → j < x1.toInt + 1 → j ≤ 63 → (g j.toNat).toInt = 0) := Iff.rfl
theorem ro2_287 {K : Nat → Nat} {n : Nat} {p : rP} {x0 : Nat} {x1 : Int32} {σ : Nat → jcell} : rB2 K n p 287 [rR x0, rI x1] σ ↔ (0 ≤ x1.toInt ∧ ∃ g, rRo K n σ x0 62 7 65 2 g ∧ (g x1.toInt.toNat).toInt = 0) := Iff.rfl
theorem ro2_288 {K : Nat → Nat} {n : Nat} {p : rP} {x0 : Nat} {x1 : Int32} {x2 : Int32} {σ : Nat → jcell} : rB2 K n p 288 [rR x0, rI x1, rI x2] σ ↔ (0 ≤ x1.toInt ∧ ∃ g, rRo K n σ x0 62 17 75 10 g ∧ (g (5 * x1.toInt + 0).toNat).toInt = x2.toInt) := Iff.rfl
theorem ro2_289 {K : Nat → Nat} {n : Nat} {p : rP} {x0 : Nat} {x1 : Int32} {x2 : Int32} {σ : Nat → jcell} : rB2 K n p 289 [rR x0, rI x1, rI x2] σ ↔ (0 ≤ x1.toInt ∧ ∃ g, rRo K n σ x0 62 17 75 10 g ∧ (g (5 * x1.toInt + 1).toNat).toInt = x2.toInt) := Iff.rfl
theorem ro2_290 {K : Nat → Nat} {n : Nat} {p : rP} {x0 : Nat} {x1 : Int32} {x2 : Int32} {σ : Nat → jcell} : rB2 K n p 290 [rR x0, rI x1, rI x2] σ ↔ (0 ≤ x1.toInt ∧ ∃ g, rRo K n σ x0 62 17 75 10 g ∧ (g (5 * x1.toInt + 2).toNat).toInt = x2.toInt) := Iff.rfl
theorem ro2_291 {K : Nat → Nat} {n : Nat} {p : rP} {x0 : Nat} {x1 : Int32} {x2 : Int32} {σ : Nat → jcell} : rB2 K n p 291 [rR x0, rI x1, rI x2] σ ↔ (0 ≤ x1.toInt ∧ ∃ g, rRo K n σ x0 62 17 75 10 g ∧ (g (5 * x1.toInt + 4).toNat).toInt = x2.toInt) := Iff.rfl
theorem ro2_300 {K : Nat → Nat} {n : Nat} {p : rP} {x0 : Nat} {σ : Nat → jcell} : rB2 K n p 300 [rR x0] σ ↔ (∃ M, rTe K n σ x0 M ∧ (M = rIp 0)) := Iff.rfl
theorem ro2_301 {K : Nat → Nat} {n : Nat} {p : rP} {x0 : Nat} {σ : Nat → jcell} : rB2 K n p 301 [rR x0] σ ↔ (∃ M, rTe K n σ x0 M ∧ (M = rIp 1)) := Iff.rfl
theorem ro2_302 {K : Nat → Nat} {n : Nat} {p : rP} {x0 : Nat} {σ : Nat → jcell} : rB2 K n p 302 [rR x0] σ ↔ (∃ M, rTe K n σ x0 M ∧ (M = rIp 2)) := Iff.rfl
theorem ro2_303 {K : Nat → Nat} {n : Nat} {p : rP} {x0 : Nat} {σ : Nat → jcell} : rB2 K n p 303 [rR x0] σ ↔ (∃ M, rTe K n σ x0 M ∧ (M = rIp 3)) := Iff.rfl
theorem ro2_304 {K : Nat → Nat} {n : Nat} {p : rP} {x0 : Nat} {σ : Nat → jcell} : rB2 K n p 304 [rR x0] σ ↔ (∃ M, rTe K n σ x0 M ∧ (M = rIp 4)) := Iff.rfl
theorem ro2_305 {K : Nat → Nat} {n : Nat} {p : rP} {x0 : Nat} {σ : Nat → jcell} : rB2 K n p 305 [rR x0] σ ↔ (∃ M, rTe K n σ x0 M ∧ (M = rIp 5)) := Iff.rfl
theorem ro2_306 {K : Nat → Nat} {n : Nat} {p : rP} {x0 : Nat} {σ : Nat → jcell} : rB2 K n p 306 [rR x0] σ ↔ (∃ M, rTe K n σ x0 M ∧ (M = rIp 6)) := Iff.rfl
theorem ro2_307 {K : Nat → Nat} {n : Nat} {p : rP} {x0 : Nat} {σ : Nat → jcell} : rB2 K n p 307 [rR x0] σ ↔ (∃ M, rTe K n σ x0 M ∧ (M = rIp 7)) := Iff.rfl
theorem ro2_308 {K : Nat → Nat} {n : Nat} {p : rP} {x0 : Nat} {σ : Nat → jcell} : rB2 K n p 308 [rR x0] σ ↔ (∃ M, rTe K n σ x0 M ∧ (M = rIp 8)) := Iff.rfl
theorem ro2_309 {K : Nat → Nat} {n : Nat} {p : rP} {x0 : Nat} {σ : Nat → jcell} : rB2 K n p 309 [rR x0] σ ↔ (∃ M, rTe K n σ x0 M ∧ (M = rIp 9)) := Iff.rfl
theorem ro2_310 {K : Nat → Nat} {n : Nat} {p : rP} {x0 : Nat} {σ : Nat → jcell} : rB2 K n p 310 [rR x0] σ ↔ (∃ M, rTe K n σ x0 M ∧ (M = rIp 10)) := Iff.rfl
theorem ro2_311 {K : Nat → Nat} {n : Nat} {p : rP} {x0 : Nat} {σ : Nat → jcell} : rB2 K n p 311 [rR x0] σ ↔ (∃ M, rTe K n σ x0 M ∧ (M = rIp 11)) := Iff.rfl
theorem ro2_312 {K : Nat → Nat} {n : Nat} {p : rP} {x0 : Nat} {σ : Nat → jcell} : rB2 K n p 312 [rR x0] σ ↔ (∃ M, rTe K n σ x0 M ∧ (M = rIp 12)) := Iff.rfl
theorem ro2_313 {K : Nat → Nat} {n : Nat} {p : rP} {x0 : Nat} {σ : Nat → jcell} : rB2 K n p 313 [rR x0] σ ↔ (∃ M, rTe K n σ x0 M ∧ (M = rIp 13)) := Iff.rfl
theorem ro2_314 {K : Nat → Nat} {n : Nat} {p : rP} {x0 : Nat} {σ : Nat → jcell} : rB2 K n p 314 [rR x0] σ ↔ (∃ M, rTe K n σ x0 M ∧ (M = rIp 14)) := Iff.rfl
theorem ro2_315 {K : Nat → Nat} {n : Nat} {p : rP} {x0 : Nat} {σ : Nat → jcell} : rB2 K n p 315 [rR x0] σ ↔ (∃ M, rTe K n σ x0 M ∧ (M = rIp 15)) := Iff.rfl
theorem ro2_316 {K : Nat → Nat} {n : Nat} {p : rP} {x0 : Nat} {σ : Nat → jcell} : rB2 K n p 316 [rR x0] σ ↔ (∃ M, rTe K n σ x0 M ∧ (M = rIp 16)) := Iff.rfl
theorem ro2_317 {K : Nat → Nat} {n : Nat} {p : rP} {x0 : Nat} {σ : Nat → jcell} : rB2 K n p 317 [rR x0] σ ↔ (∃ M, rTe K n σ x0 M ∧ (M = rIp 17)) := Iff.rfl
theorem ro2_318 {K : Nat → Nat} {n : Nat} {p : rP} {x0 : Nat} {σ : Nat → jcell} : rB2 K n p 318 [rR x0] σ ↔ (∃ M, rTe K n σ x0 M ∧ (M = rIp 18)) := Iff.rfl
theorem ro2_319 {K : Nat → Nat} {n : Nat} {p : rP} {x0 : Nat} {σ : Nat → jcell} : rB2 K n p 319 [rR x0] σ ↔ (∃ M, rTe K n σ x0 M ∧ (M = rIp 19)) := Iff.rfl
theorem ro2_320 {K : Nat → Nat} {n : Nat} {p : rP} {x0 : Nat} {σ : Nat → jcell} : rB2 K n p 320 [rR x0] σ ↔ (∃ M, rTe K n σ x0 M ∧ (M = rIp 20)) := Iff.rfl
theorem ro2_321 {K : Nat → Nat} {n : Nat} {p : rP} {x0 : Nat} {σ : Nat → jcell} : rB2 K n p 321 [rR x0] σ ↔ (∃ M, rTe K n σ x0 M ∧ (M = rIp 21)) := Iff.rfl
theorem ro2_322 {K : Nat → Nat} {n : Nat} {p : rP} {x0 : Nat} {σ : Nat → jcell} : rB2 K n p 322 [rR x0] σ ↔ (∃ M, rTe K n σ x0 M ∧ (M = rIp 22)) := Iff.rfl
theorem ro2_323 {K : Nat → Nat} {n : Nat} {p : rP} {x0 : Nat} {σ : Nat → jcell} : rB2 K n p 323 [rR x0] σ ↔ (∃ M, rTe K n σ x0 M ∧ (M = rIp 23)) := Iff.rfl
theorem ro2_324 {K : Nat → Nat} {n : Nat} {p : rP} {x0 : Nat} {σ : Nat → jcell} : rB2 K n p 324 [rR x0] σ ↔ (∃ M, rTe K n σ x0 M ∧ (M = rIp 24)) := Iff.rfl
theorem ro2_325 {K : Nat → Nat} {n : Nat} {p : rP} {x0 : Nat} {σ : Nat → jcell} : rB2 K n p 325 [rR x0] σ ↔ (∃ M, rTe K n σ x0 M ∧ (M = rIp 25)) := Iff.rfl
theorem ro2_326 {K : Nat → Nat} {n : Nat} {p : rP} {x0 : Nat} {σ : Nat → jcell} : rB2 K n p 326 [rR x0] σ ↔ (∃ M, rTe K n σ x0 M ∧ (M = rIp 26)) := Iff.rfl
theorem ro2_327 {K : Nat → Nat} {n : Nat} {p : rP} {x0 : Nat} {σ : Nat → jcell} : rB2 K n p 327 [rR x0] σ ↔ (∃ M, rTe K n σ x0 M ∧ (M = rIp 27)) := Iff.rfl
theorem ro2_328 {K : Nat → Nat} {n : Nat} {p : rP} {x0 : Nat} {σ : Nat → jcell} : rB2 K n p 328 [rR x0] σ ↔ (∃ M, rTe K n σ x0 M ∧ (M = rIp 28)) := Iff.rfl
theorem ro2_329 {K : Nat → Nat} {n : Nat} {p : rP} {x0 : Nat} {σ : Nat → jcell} : rB2 K n p 329 [rR x0] σ ↔ (∃ M, rTe K n σ x0 M ∧ (M = rIp 29)) := Iff.rfl
theorem ro2_330 {K : Nat → Nat} {n : Nat} {p : rP} {x0 : Nat} {σ : Nat → jcell} : rB2 K n p 330 [rR x0] σ ↔ (∃ M, rTe K n σ x0 M ∧ (M = rIp 30)) := Iff.rfl
theorem ro2_331 {K : Nat → Nat} {n : Nat} {p : rP} {x0 : Nat} {σ : Nat → jcell} : rB2 K n p 331 [rR x0] σ ↔ (∃ M, rTe K n σ x0 M ∧ (M = rIp 31)) := Iff.rfl
theorem ro2_332 {K : Nat → Nat} {n : Nat} {p : rP} {x0 : Nat} {σ : Nat → jcell} : rB2 K n p 332 [rR x0] σ ↔ (∃ M, rTe K n σ x0 M ∧ (M = rIp 32)) := Iff.rfl
theorem ro2_333 {K : Nat → Nat} {n : Nat} {p : rP} {x0 : Nat} {x1 : Int32} {σ : Nat → jcell} : rB2 K n p 333 [rR x0, rI x1] σ ↔ (∃ g t e, rVl K n σ x0 g ∧ rOb K n σ x0 62 38 (rI t) ∧ rOb K n σ x0 62 39 (rI e) ∧ x1.toInt = (if t.toInt < e.toInt then (g t.toInt.toNat).toInt else 0)) := Iff.rfl
theorem ro2_334 {K : Nat → Nat} {n : Nat} {p : rP} {x0 : Nat} {σ : Nat → jcell} : rB2 K n p 334 [rR x0] σ ↔ (∃ M, rTe K n σ x0 M ∧ (rVal M)) := Iff.rfl
theorem ro2_335_1 {K : Nat → Nat} {n : Nat} {p : rP} {x0 : Nat} {σ : Nat → jcell} : rB2 K n p 335 [rR x0] σ ↔ (∃ M, rTe K n σ x0 M ∧ (rCnt M 6 64 = 1)) := ⟨fun h => (fun h => Or.elim h id False.elim) (show rb_335 K n [rR x0] σ from h), fun h => Or.inl (h)⟩
theorem ro2_335_4 {K : Nat → Nat} {n : Nat} {p : rP} {x0 : Nat} {x1 : Int32} {x2 : Int32} {x3 : Int32} {σ : Nat → jcell} : rB2 K n p 335 [rR x0, rI x1, rI x2, rI x3] σ ↔ (∃ M, rTe K n σ x0 M ∧ (x3.toInt = rCnt M x1.toInt x2.toInt.toNat)) := ⟨fun h => (fun h => Or.elim h False.elim id) (show rb_335 K n [rR x0, rI x1, rI x2, rI x3] σ from h), fun h => Or.inr (h)⟩
theorem ro2_336_1 {K : Nat → Nat} {n : Nat} {p : rP} {x0 : Nat} {σ : Nat → jcell} : rB2 K n p 336 [rR x0] σ ↔ (∃ M, rTe K n σ x0 M ∧ (rCnt M 6 64 = 1 ∧ rCnt M 14 64 = 1)) := ⟨fun h => (fun h => Or.elim h id False.elim) (show rb_336 K n [rR x0] σ from h), fun h => Or.inl (h)⟩
theorem ro2_336_4 {K : Nat → Nat} {n : Nat} {p : rP} {x0 : Nat} {x1 : Int32} {x2 : Int32} {x3 : Int32} {σ : Nat → jcell} : rB2 K n p 336 [rR x0, rI x1, rI x2, rI x3] σ ↔ (∃ M, rTe K n σ x0 M ∧ (x3.toInt = rCnt M x1.toInt (x2.toInt + 1).toNat)) := ⟨fun h => (fun h => Or.elim h False.elim id) (show rb_336 K n [rR x0, rI x1, rI x2, rI x3] σ from h), fun h => Or.inr (h)⟩
theorem ro2_337 {K : Nat → Nat} {n : Nat} {p : rP} {x0 : Nat} {x1 : Int32} {x2 : Int32} {σ : Nat → jcell} : rB2 K n p 337 [rR x0, rI x1, rI x2] σ ↔ (∃ M, rTe K n σ x0 M ∧ (x2.toInt = rCnt M x1.toInt 64)) := Iff.rfl
theorem ro2_338 {K : Nat → Nat} {n : Nat} {p : rP} {x0 : Nat} {x1 : Int32} {σ : Nat → jcell} : rB2 K n p 338 [rR x0, rI x1] σ ↔ (x1.toInt = 1 → ∃ M v, rTe K n σ x0 M ∧ rOb K n σ x0 62 25 (rI v) ∧ 0 ≤ v.toInt ∧ v.toInt ≤ 1 ∧ ∀ j, 0 ≤ j → j ≤ 63 → M j = 8 * (1 - v.toInt) + 6 → ∃ s, 0 ≤ s ∧ s ≤ 63 ∧ M s = 8 * (1 - v.toInt) + 6 ∧ ¬ rAk M s v.toInt) := Iff.rfl
theorem ro2_339 {K : Nat → Nat} {n : Nat} {p : rP} {x0 : Nat} {x1 : Int32} {σ : Nat → jcell} : rB2 K n p 339 [rR x0, rI x1] σ ↔ (x1.toInt = 1 → ∃ M v P, rTe K n σ x0 M ∧ rOb K n σ x0 62 25 (rI v) ∧ rOb K n σ x0 62 27 (rI P) ∧ 0 ≤ P.toInt ∧ P.toInt ≤ 63 ∧ M P.toInt = 0 ∧ ((v.toInt = 0 ∧ P.toInt / 8 = 5) ∨ (v.toInt = 1 ∧ P.toInt / 8 = 2))) := Iff.rfl
theorem ro2_340 {K : Nat → Nat} {n : Nat} {p : rP} {x0 : Nat} {x1 : Int32} {σ : Nat → jcell} : rB2 K n p 340 [rR x0, rI x1] σ ↔ (x1.toInt = 1 → ∃ M v P, rTe K n σ x0 M ∧ rOb K n σ x0 62 25 (rI v) ∧ rOb K n σ x0 62 27 (rI P) ∧ rPs (M, v.toInt, 0, P.toInt)) := Iff.rfl
theorem ro2_341 {K : Nat → Nat} {n : Nat} {p : rP} {x0 : Int32} {x1 : Int32} {σ : Nat → jcell} : rB2 K n p 341 [rI x0, rI x1] σ ↔ (x1.toInt = if x0.toInt = 66 then 3 else if x0.toInt = 75 then 6 else if x0.toInt = 78 then 2 else if x0.toInt = 80 then 1 else if x0.toInt = 81 then 5 else if x0.toInt = 82 then 4 else 0) := Iff.rfl
theorem ro2_400 {K : Nat → Nat} {n : Nat} {p : rP} {x0 : Nat} {σ : Nat → jcell} : rB2 K n p 400 [rR x0] σ ↔ (p.2 = none ∧ rTX K n σ x0 p.1) := (rB2_o (k := 400) rfl).trans ro_400
theorem ro2_411 {K : Nat → Nat} {n : Nat} {p : rP} {x0 : Nat} {x1 : Int32} {σ : Nat → jcell} : rB2 K n p 411 [rR x0, rI x1] σ ↔ (p.2 = none ∧ rTX K n σ x0 (rVk p.1 x1.toInt)) := (rB2_o (k := 411) rfl).trans ro_411
theorem ro2_438 {K : Nat → Nat} {n : Nat} {p : rP} {x0 : Nat} {x1 : Int32} {σ : Nat → jcell} : rB2 K n p 438 [rR x0, rI x1] σ ↔ (x1.toInt ≤ 2048 ∧ rTL K n σ x0 x1.toInt p.1) := (rB2_o (k := 438) rfl).trans ro_438
theorem ro2_449_3 {K : Nat → Nat} {n : Nat} {p : rP} {x0 : Nat} {x1 : Int32} {x2 : Int32} {σ : Nat → jcell} : rB2 K n p 449 [rR x0, rI x1, rI x2] σ ↔ (p.2 = none ∧ ∃ C y, rTY K n σ x0 x1.toInt C y ∧ 0 ≤ x2.toInt ∧ x2.toInt ≤ C ∧ p.1 = rPo y x2.toInt) := ⟨fun h => (fun h => Or.elim h id False.elim) (show rb_449 K n p [rR x0, rI x1, rI x2] σ from h), fun h => Or.inl (h)⟩
theorem ro2_449_5 {K : Nat → Nat} {n : Nat} {p : rP} {x0 : Nat} {x1 : Int32} {x2 : Int32} {x3 : Int32} {x4 : Int32} {σ : Nat → jcell} : rB2 K n p 449 [rR x0, rI x1, rI x2, rI x3, rI x4] σ ↔ (p.2 = none ∧ ∃ C y, rTY K n σ x0 x1.toInt C y ∧ 0 ≤ x2.toInt ∧ x2.toInt ≤ C ∧ 0 ≤ x3.toInt ∧ rPth K n σ x0 y x2.toInt x3.toInt ∧ rUa y.1 x3.toInt.toNat x2.toInt = 0 ∧ 0 ≤ x4.toInt ∧ x4.toInt < x3.toInt ∧ p.1 = rPo y (rUa y.1 (x4.toInt + 1).toNat x2.toInt)) := ⟨fun h => (fun h => Or.elim h False.elim id) (show rb_449 K n p [rR x0, rI x1, rI x2, rI x3, rI x4] σ from h), fun h => Or.inr (h)⟩
end
section
/-! the usual start is good; values -/
theorem rUs_b (k : Nat) : 0 ≤ (rUs k).1 ∧ (rUs k).1 ≤ 63 := by
  by_cases c : k < 32
  · exact (by decide : ∀ k : Fin 32, 0 ≤ (rUs k.val).1 ∧ (rUs k.val).1 ≤ 63) ⟨k, c⟩
  · have e : rUs k = (0, 0) := by
      unfold rUs
      rw [List.getD_eq_getElem?_getD, List.getElem?_eq_none (by simp only [List.length_cons, List.length_nil]; omega)]
      rfl
    rw [e]
    exact ⟨by decide, by decide⟩
theorem rIp_o : ∀ {k : Nat} {s : Int}, ¬ (0 ≤ s ∧ s ≤ 63) → rIp k s = 0
  | 0, _, _ => rfl
  | k + 1, s, h => by
    have hb := rUs_b k
    show (if s = (rUs k).1 then _ else rIp k s) = 0
    rw [if_neg (by omega)]
    exact rIp_o h
theorem rIp_v : ∀ s : Fin 64, rIp 32 (s.val : Int) = 0 ∨ ((1 ≤ rIp 32 (s.val : Int) ∧ rIp 32 (s.val : Int) ≤ 6) ∨ (9 ≤ rIp 32 (s.val : Int) ∧ rIp 32 (s.val : Int) ≤ 14)) := by decide +kernel
theorem rIp_k : ∀ s : Fin 64, (rIp 32 (s.val : Int) = 6 → s.val = 4) ∧ (rIp 32 (s.val : Int) = 14 → s.val = 60) := by decide +kernel
theorem rGf_uq {M : Int → Int} {f r t m m' : Int} (h : rGf M f r t m) (h' : rGf M f r t m') : m = m' := by
  obtain ⟨k, e⟩ := h
  obtain ⟨k', e'⟩ := h'
  exact rGn_u e e'
theorem rIp_a {f r : Int} (hf : f = -2 ∨ f = -1 ∨ f = 0 ∨ f = 1 ∨ f = 2) (hr : r = -2 ∨ r = -1 ∨ r = 0 ∨ r = 1 ∨ r = 2) : ¬ rA1 (rIp 32) 60 0 f r := by
  have h2 : ∀ f r : Fin 5, ¬ (0 ≤ rSp 60 ((f.val : Int) - 2) ((r.val : Int) - 2) ∧ (rIp 32 (rSp 60 ((f.val : Int) - 2) ((r.val : Int) - 2)) = 2 ∨ rIp 32 (rSp 60 ((f.val : Int) - 2) ((r.val : Int) - 2)) = 6)) := by decide +kernel
  have h3 : ∀ f r : Fin 5, (((f.val : Int) - 2) * ((f.val : Int) - 2) + ((r.val : Int) - 2) * ((r.val : Int) - 2) ≤ 2) → 1 ≤ (((f.val : Int) - 2) * ((f.val : Int) - 2) + ((r.val : Int) - 2) * ((r.val : Int) - 2)) → rSp 60 ((f.val : Int) - 2) ((r.val : Int) - 2) < 0 ∨ (0 ≤ rSp 60 ((f.val : Int) - 2) ((r.val : Int) - 2) ∧ 9 ≤ rIp 32 (rSp 60 ((f.val : Int) - 2) ((r.val : Int) - 2))) := by decide +kernel
  have e2 := h2 ⟨(f + 2).toNat, by omega⟩ ⟨(r + 2).toNat, by omega⟩
  have e3 := h3 ⟨(f + 2).toNat, by omega⟩ ⟨(r + 2).toNat, by omega⟩
  dsimp only at e2 e3
  rw [show (((f + 2).toNat : Nat) : Int) - 2 = f by omega, show (((r + 2).toNat : Nat) : Int) - 2 = r by omega] at e2 e3
  rintro (⟨-, k1, k2⟩ | ⟨k1, k2, ⟨k3, k4⟩ | ⟨m, k3, k4⟩⟩)
  · exact e2 ⟨k1, Or.inl k2⟩
  · exact e2 ⟨k3, Or.inr k4⟩
  · have hm : m = 0 ∨ 9 ≤ m := by
      rcases e3 k2 k1 with h | ⟨h, h9⟩
      · exact Or.inl (rGf_uq k3 (rGf_o h))
      · exact Or.inr (by rw [rGf_uq k3 (rGf_s h rfl (by omega))]; exact h9)
    omega
theorem rIp_gd : rGd (rIp 32, 0, 15, -1) := by
  have hz : ∀ {s : Int}, ¬ rIp 32 s = 0 → 0 ≤ s ∧ s ≤ 63 := fun {s} h => by
    by_cases c : 0 ≤ s ∧ s ≤ 63
    · exact c
    · exact absurd (rIp_o c) h
  refine ⟨by decide, by decide, fun s => ?_, fun b b0 b1 => ?_, Or.inl rfl, fun s hs => ?_⟩
  · dsimp only
    by_cases c : 0 ≤ s ∧ s ≤ 63
    · have h := rIp_v ⟨s.toNat, by omega⟩
      dsimp only at h
      rw [show ((s.toNat : Nat) : Int) = s by omega] at h
      rcases h with h | h
      · exact Or.inl h
      · exact Or.inr ⟨c.1, c.2, h⟩
    · exact Or.inl (rIp_o c)
  · dsimp only
    have hb : b = 0 ∨ b = 1 := by omega
    rcases hb with rfl | rfl
    · refine ⟨4, by decide, by decide, by decide +kernel, fun t ht => ?_⟩
      have hr := hz (s := t) (by omega)
      have h := (rIp_k ⟨t.toNat, by omega⟩).1
      dsimp only at h
      rw [show ((t.toNat : Nat) : Int) = t by omega] at h
      have := h (by omega)
      omega
    · refine ⟨60, by decide, by decide, by decide +kernel, fun t ht => ?_⟩
      have hr := hz (s := t) (by omega)
      have h := (rIp_k ⟨t.toNat, by omega⟩).2
      dsimp only at h
      rw [show ((t.toNat : Nat) : Int) = t by omega] at h
      have := h (by omega)
      omega
  · dsimp only at hs ⊢
    have hr := hz (s := s) (by omega)
    have h := (rIp_k ⟨s.toNat, by omega⟩).2
    dsimp only at h
    rw [show ((s.toNat : Nat) : Int) = s by omega] at h
    have hs60 : s = 60 := by
      have := h (by omega)
      omega
    rw [hs60]
    rintro (⟨-, k2⟩ | ⟨-, k2⟩ | ⟨f, r, f0, f1, r0, r1, k⟩)
    · exact absurd k2 (by decide +kernel)
    · exact absurd k2 (by decide +kernel)
    · exact rIp_a (by omega) (by omega) k
theorem rVl_ex {K : Nat → Nat} {n : Nat} {σ : Nat → jcell} (hH : aH fa_T K n σ) {a : Nat} (ha : a < n) (hk : K a = 62) : ∃ g, rVl K n σ a g := by
  have h1 := hH a ha _ (by rw [hk]; exact (rfl : fa_T[62]? = _))
  match e : σ a, h1 with
  | .inr (c', fs), h1 =>
    obtain ⟨-, hl, h2⟩ := h1
    have hf : 22 < fs.length := by rw [hl]; decide
    obtain ⟨r, e2, h3, h4⟩ := rG_ref (k := 80) (by decide) (h2 22 _ _ rfl (List.getElem?_eq_getElem hf))
    have h5 := hH r h3 _ (by rw [h4]; exact (rfl : fa_T[80]? = _))
    obtain ⟨g, e3, -⟩ := aCe_arr h5 (show ¬ FieldType.char = FieldType.long by decide)
    exact ⟨g, r, ⟨ha, hk, c', fs, e, by rw [List.getElem?_eq_getElem hf, e2]⟩, h3, h4, e3⟩
  | .inl x, h1 => exact h1.elim
theorem rVl_u {K : Nat → Nat} {n : Nat} {σ : Nat → jcell} {a : Nat} {g g' : Nat → Int32} (h : rVl K n σ a g) (h' : rVl K n σ a g') : g = g' := by
  obtain ⟨r, o, -, -, e⟩ := h
  obtain ⟨r', o', -, -, e'⟩ := h'
  cases rOb_u o o'
  rw [e] at e'
  cases e'
  rfl
theorem rVl_c {K : Nat → Nat} {n : Nat} {σ : Nat → jcell} {a b c m i : Nat} {fs : List jv} {ty : FieldType} {g g' : Nat → Int32} (h : rVl K n σ a g') (e1 : σ a = .inr (c, fs)) (e2 : fs[22]? = some (rR b)) (e3 : σ b = .inl (ty, m, .inl g)) {v : Int32} (hv : v = g i) : (g' i).toInt = v.toInt := by
  obtain ⟨r, ⟨-, -, c', fs', e4, e5⟩, -, -, e6⟩ := h
  rw [e1] at e4
  cases e4
  rw [e2] at e5
  cases e5
  rw [e3] at e6
  cases e6
  rw [hv]
theorem rRgx9 {K : Nat → Nat} {n : Nat} {σ : Nat → jcell} (hH : aH fa_T K n σ) {a : Nat} (ha : a < n) (hk : K a = 62) : ∃ R : Int32, rOb K n σ a 62 26 (rI R) := by
  have h1 := hH a ha _ (by rw [hk]; exact (rfl : fa_T[62]? = _))
  match e : σ a, h1 with
  | .inr (c', fs), h1 =>
    obtain ⟨-, hl, h2⟩ := h1
    have hf : 26 < fs.length := by rw [hl]; decide
    obtain ⟨x, e2, -, -⟩ := aG_int (h2 26 _ _ rfl (List.getElem?_eq_getElem hf))
    exact ⟨x, ha, hk, c', fs, e, by rw [List.getElem?_eq_getElem hf, e2]⟩
  | .inl x, h1 => exact h1.elim
end
section
/-! the reference: rules of u4 -/
theorem rw_ryC0 {K : Nat → Nat} {n : Nat} {JX : (Nat → jcell) → Prop} : aGho (rG K n) fa_T K n JX ag_ryC0 := by
  refine aGho_n1 (b := (0, 301)) rfl rfl ?_
  intro p σ ρ hH hX hA hM0
  have hG := aAG_of hA.1 (fun i e v he hv => (hA.2 i e v he hv).1)
  clear hA
  obtain ⟨v0, v1, v2, v3, v4, rfl, g0, g1, g2, g3, g4⟩ := rA_5 hG
  clear hG
  obtain ⟨x0, rfl, b0, d0⟩ := rG_ref (by decide) g0
  obtain ⟨x1, rfl, b1, d1⟩ := aG_int g1
  dsimp only at b1 d1
  obtain ⟨x2, rfl, b2, d2⟩ := aG_int g2
  dsimp only at b2 d2
  obtain ⟨x3, rfl, b3, d3⟩ := aG_int g3
  dsimp only at b3 d3
  obtain ⟨x4, rfl, b4, d4⟩ := rG_ref (by decide) g4
  obtain ⟨m1, m2, m3, m4⟩ := hM0
  obtain ⟨T, hT⟩ := rTe_ex hH b0 d0
  obtain ⟨a0, c0, fs0, w0, e1, s0, t0, e4⟩ := m1 (0, 10, 4) (List.mem_of_getElem? (i := 0) rfl)
  obtain rfl : x0 = a0 := Sum.inl.inj (Option.some.inj (Sum.inr.inj (Sum.inr.inj (Option.some.inj (show some (rR x0) = some _ from e1)))))
  obtain rfl : rR x4 = w0 := Option.some.inj (show some (rR x4) = some w0 from e4)
  clear e1 e4
  obtain ⟨a, mc0, ty0, gc0, ic0, e1, sc0, jc0, e4, e5⟩ := m2 (4, ([(1, 301), (2, 1)], 0), 3) (List.mem_of_getElem? (i := 0) rfl)
  obtain rfl : x4 = a := Sum.inl.inj (Option.some.inj (Sum.inr.inj (Sum.inr.inj (Option.some.inj (show some (rR x4) = some _ from e1)))))
  obtain ⟨gc0, rfl⟩ : ∃ g, gc0 = .inl g := by
    rcases gc0 with g | g
    · exact ⟨g, rfl⟩
    · exact absurd (show some (rI x3) = some (.inr (.inl (g ic0))) from e5) (fun h => by cases h)
  have sc0 : σ x4 = .inl (ty0, mc0, .inl gc0) := sc0
  have ec0 : x3 = gc0 ic0 := Sum.inl.inj (Option.some.inj (show some (rI x3) = some _ from e5))
  have kc0 : (ic0 : Int) = (301 * x1.toInt + (1 * x2.toInt + 0)) + 0 := by
    obtain ⟨z, e6, e7⟩ := e4
    obtain rfl : (301 * x1.toInt + (1 * x2.toInt + 0)) = z := Option.some.inj (show some (301 * x1.toInt + (1 * x2.toInt + 0)) = some z from e6)
    exact e7
  clear e1 e4 e5
  have f0 : rB2 K n p 241 [rR x0, rI x1, rI x2] σ := by
    obtain ⟨w, e6, e7⟩ := m4 (3859, [0, 1, 2]) (List.mem_of_getElem? (i := 0) rfl)
    obtain rfl : [rR x0, rI x1, rI x2] = w := Option.some.inj (show some [rR x0, rI x1, rI x2] = some w from e6)
    exact (rF_b (r := 3859) (by decide) rfl).mp e7
  obtain ⟨C, y, hY, f0⟩ := ro2_241.mp f0
  clear m1 m2 m3 m4
  have y0 : y.2.2.1 x2.toInt = x3.toInt := rSc_c hY.1.2.2.1 s0 t0 sc0 ec0 (by omega)
  obtain ⟨L, n1, n2, n3, n4⟩ := rTr_L hY.2.2 f0.1 f0.2
  obtain ⟨x5, e5⟩ := rI32 (z := (L.length : Int)) (by omega) (by omega)
  have b5 : 0 ≤ x5.toInt := by omega
  have d5 : x5.toInt ≤ 301 := by omega
  have q0 : rB2 K n p 242 [rR x0, rI x1, rI x3, rI x5] σ := ro2_242.mpr ⟨C, y, hY, by
    exact ⟨L, by rw [← y0]; exact n2, fun c hc => by have := (n3 c).mp hc; omega, by omega⟩⟩
  exact ⟨p, x5, fun _ => rfl, b5, d5, ⟨(fun q h => by cases h), fun q h => (by cases h), (fun f h => by cases h), (aAllc ⟨_, rfl, (rF_b (r := 3876) (by decide) rfl).mpr q0⟩ (fun f h => by cases h))⟩, [], List.mem_cons_self, fun f h => (by cases h)⟩
theorem rw_ryCn {K : Nat → Nat} {n : Nat} {JX : (Nat → jcell) → Prop} : aGho (rG K n) fa_T K n JX ag_ryCn := by
  refine aGho_n1 (b := (0, 301)) rfl rfl ?_
  intro p σ ρ hH hX hA hM0
  have hG := aAG_of hA.1 (fun i e v he hv => (hA.2 i e v he hv).1)
  clear hA
  obtain ⟨v0, v1, v2, v3, v4, v5, rfl, g0, g1, g2, g3, g4, g5⟩ := rA_6 hG
  clear hG
  obtain ⟨x0, rfl, b0, d0⟩ := rG_ref (by decide) g0
  obtain ⟨x1, rfl, b1, d1⟩ := aG_int g1
  dsimp only at b1 d1
  obtain ⟨x2, rfl, b2, d2⟩ := aG_int g2
  dsimp only at b2 d2
  obtain ⟨x3, rfl, b3, d3⟩ := aG_int g3
  dsimp only at b3 d3
  obtain ⟨x4, rfl, b4, d4⟩ := aG_int g4
  dsimp only at b4 d4
  obtain ⟨x5, rfl, b5, d5⟩ := rG_ref (by decide) g5
  obtain ⟨m1, m2, m3, m4⟩ := hM0
  obtain ⟨T, hT⟩ := rTe_ex hH b0 d0
  obtain ⟨a0, c0, fs0, w0, e1, s0, t0, e4⟩ := m1 (0, 11, 5) (List.mem_of_getElem? (i := 0) rfl)
  obtain rfl : x0 = a0 := Sum.inl.inj (Option.some.inj (Sum.inr.inj (Sum.inr.inj (Option.some.inj (show some (rR x0) = some _ from e1)))))
  obtain rfl : rR x5 = w0 := Option.some.inj (show some (rR x5) = some w0 from e4)
  clear e1 e4
  obtain ⟨a, mc0, ty0, gc0, ic0, e1, sc0, jc0, e4, e5⟩ := m2 (5, ([(1, 301), (2, 1)], 0), 4) (List.mem_of_getElem? (i := 0) rfl)
  obtain rfl : x5 = a := Sum.inl.inj (Option.some.inj (Sum.inr.inj (Sum.inr.inj (Option.some.inj (show some (rR x5) = some _ from e1)))))
  obtain ⟨gc0, rfl⟩ : ∃ g, gc0 = .inl g := by
    rcases gc0 with g | g
    · exact ⟨g, rfl⟩
    · exact absurd (show some (rI x4) = some (.inr (.inl (g ic0))) from e5) (fun h => by cases h)
  have sc0 : σ x5 = .inl (ty0, mc0, .inl gc0) := sc0
  have ec0 : x4 = gc0 ic0 := Sum.inl.inj (Option.some.inj (show some (rI x4) = some _ from e5))
  have kc0 : (ic0 : Int) = (301 * x1.toInt + (1 * x2.toInt + 0)) + 0 := by
    obtain ⟨z, e6, e7⟩ := e4
    obtain rfl : (301 * x1.toInt + (1 * x2.toInt + 0)) = z := Option.some.inj (show some (301 * x1.toInt + (1 * x2.toInt + 0)) = some z from e6)
    exact e7
  clear e1 e4 e5
  have f0 : rB2 K n p 242 [rR x0, rI x1, rI x2, rI x3] σ := by
    obtain ⟨w, e6, e7⟩ := m4 (3876, [0, 1, 2, 3]) (List.mem_of_getElem? (i := 0) rfl)
    obtain rfl : [rR x0, rI x1, rI x2, rI x3] = w := Option.some.inj (show some [rR x0, rI x1, rI x2, rI x3] = some w from e6)
    exact (rF_b (r := 3876) (by decide) rfl).mp e7
  obtain ⟨C, y, hY, f0⟩ := ro2_242.mp f0
  clear m1 m2 m3 m4
  have y0 : y.2.2.2.1 x2.toInt = x4.toInt := rSc_c hY.1.2.2.2.1 s0 t0 sc0 ec0 (by omega)
  obtain ⟨L, k1, k2, k3⟩ := f0
  obtain ⟨c, r, rfl⟩ : ∃ c r, L = c :: r := by
    match L, k1 with
    | [], k1 => have e : x2.toInt = -1 := k1; omega
    | c :: r, _ => exact ⟨c, r, rfl⟩
  have l1 : x2.toInt = c := k1.1
  have l2 := k1.2
  have l3 : (c :: r).length = r.length + 1 := rfl
  obtain ⟨x6, e6⟩ := rI32 (z := (r.length : Int)) (by omega) (by omega)
  have b6 : 0 ≤ x6.toInt := by omega
  have d6 : x6.toInt ≤ 301 := by omega
  have r0 : 0 ≤ (1 * x3.toInt + (-1 * x6.toInt + 0)) + -1 := by
    omega
  have q0 : rB2 K n p 242 [rR x0, rI x1, rI x4, rI x6] σ := ro2_242.mpr ⟨C, y, hY, by
    exact ⟨r, by rw [← y0, l1]; exact l2, fun c hc => k2 c (List.mem_cons_of_mem _ hc), by omega⟩⟩
  exact ⟨p, x6, fun _ => rfl, b6, d6, ⟨(fun q h => by cases h), fun q h => (by cases h), (aAllc ⟨_, rfl, r0⟩ (fun f h => by cases h)), (aAllc ⟨_, rfl, (rF_b (r := 3876) (by decide) rfl).mpr q0⟩ (fun f h => by cases h))⟩, [], List.mem_cons_self, fun f h => (by cases h)⟩
theorem rw_ryCe {K : Nat → Nat} {n : Nat} {JX : (Nat → jcell) → Prop} : aGho (rG K n) fa_T K n JX ag_ryCe := by
  refine aGho_of ⟨rfl, rfl⟩ ?_
  intro p σ ρ hH hX hA hM0
  have hG := aAG_of hA.1 (fun i e v he hv => (hA.2 i e v he hv).1)
  clear hA
  obtain ⟨v0, v1, v2, v3, rfl, g0, g1, g2, g3⟩ := rA_4 hG
  clear hG
  obtain ⟨x0, rfl, b0, d0⟩ := rG_ref (by decide) g0
  obtain ⟨x1, rfl, b1, d1⟩ := aG_int g1
  dsimp only at b1 d1
  obtain ⟨x2, rfl, b2, d2⟩ := aG_int g2
  dsimp only at b2 d2
  obtain ⟨x3, rfl, b3, d3⟩ := aG_int g3
  dsimp only at b3 d3
  obtain ⟨m1, m2, m3, m4⟩ := hM0
  obtain ⟨T, hT⟩ := rTe_ex hH b0 d0
  have f0 : rB2 K n p 242 [rR x0, rI x1, rI x2, rI x3] σ := by
    obtain ⟨w, e6, e7⟩ := m4 (3876, [0, 1, 2, 3]) (List.mem_of_getElem? (i := 0) rfl)
    obtain rfl : [rR x0, rI x1, rI x2, rI x3] = w := Option.some.inj (show some [rR x0, rI x1, rI x2, rI x3] = some w from e6)
    exact (rF_b (r := 3876) (by decide) rfl).mp e7
  obtain ⟨C, y, hY, f0⟩ := ro2_242.mp f0
  clear m1 m2 m3 m4
  have q0 : rB2 K n p 238 [rR x0, rI x1, rI x2] σ := ro2_238.mpr ⟨C, y, hY, by
    intro h0
    obtain ⟨L, k1, k2, k3⟩ := f0
    match L, k1, k2 with
    | [], k1, _ => have e : x2.toInt = -1 := k1; omega
    | c :: r, k1, k2 =>
      have e : x2.toInt = c := k1.1
      have := k2 c List.mem_cons_self
      omega⟩
  exact ⟨p, fun _ => rfl, ⟨(fun q h => by cases h), fun q h => (by cases h), (fun f h => by cases h), (aAllc ⟨_, rfl, (rF_b (r := 3811) (by decide) rfl).mpr q0⟩ (fun f h => by cases h))⟩, [], List.mem_cons_self, fun f h => (by cases h)⟩
theorem rw_rzP0 {K : Nat → Nat} {n : Nat} {JX : (Nat → jcell) → Prop} : aGho (rG K n) fa_T K n JX ag_rzP0 := by
  refine aGho_of ⟨rfl, rfl⟩ ?_
  intro p σ ρ hH hX hA hM0
  have hG := aAG_of hA.1 (fun i e v he hv => (hA.2 i e v he hv).1)
  clear hA
  obtain ⟨v0, v1, v2, v3, rfl, g0, g1, g2, g3⟩ := rA_4 hG
  clear hG
  obtain ⟨x0, rfl, b0, d0⟩ := rG_ref (by decide) g0
  obtain ⟨x1, rfl, b1, d1⟩ := aG_int g1
  dsimp only at b1 d1
  obtain ⟨x2, rfl, b2, d2⟩ := aG_int g2
  dsimp only at b2 d2
  obtain ⟨x3, rfl, b3, d3⟩ := aG_int g3
  dsimp only at b3 d3
  obtain ⟨m1, m2, m3, m4⟩ := hM0
  obtain ⟨T, hT⟩ := rTe_ex hH b0 d0
  have f0 : rB2 K n p 241 [rR x0, rI x1, rI x2] σ := by
    obtain ⟨w, e6, e7⟩ := m4 (3859, [0, 1, 2]) (List.mem_of_getElem? (i := 0) rfl)
    obtain rfl : [rR x0, rI x1, rI x2] = w := Option.some.inj (show some [rR x0, rI x1, rI x2] = some w from e6)
    exact (rF_b (r := 3859) (by decide) rfl).mp e7
  obtain ⟨C, y, hY, f0⟩ := ro2_241.mp f0
  clear m1 m2 m3 m4
  have q0 : rB2 K n p 246 [rR x0, rI x1, rI x2, rI x3, rI x2] σ := ro2_246.mpr (by
    obtain ⟨g, r⟩ := rRo_ex (ko := 62) (f := 34) (kr := 86) (len := 301) hH rfl rfl rfl (by decide) b0 d0
    refine ⟨C, y, hY, f0.1, f0.2, b3, ⟨g, r, fun i i0 i1 => by omega⟩, ?_, f0.1, f0.2⟩
    rw [show x3.toInt.toNat = 0 by omega]
    rfl)
  exact ⟨p, fun _ => rfl, ⟨(fun q h => by cases h), fun q h => (by cases h), (fun f h => by cases h), (aAllc ⟨_, rfl, (rF_b (r := 3941) (by decide) rfl).mpr q0⟩ (fun f h => by cases h))⟩, [], List.mem_cons_self, fun f h => (by cases h)⟩
theorem rw_rzPs {K : Nat → Nat} {n : Nat} {JX : (Nat → jcell) → Prop} : aGho (rG K n) fa_T K n JX ag_rzPs := by
  refine aGho_of ⟨rfl, rfl⟩ ?_
  intro p σ ρ hH hX hA hM0
  have hG := aAG_of hA.1 (fun i e v he hv => (hA.2 i e v he hv).1)
  clear hA
  obtain ⟨v0, v1, v2, v3, v4, v5, rfl, g0, g1, g2, g3, g4, g5⟩ := rA_6 hG
  clear hG
  obtain ⟨x0, rfl, b0, d0⟩ := rG_ref (by decide) g0
  obtain ⟨x1, rfl, b1, d1⟩ := rG_ref (by decide) g1
  obtain ⟨x2, rfl, b2, d2⟩ := aG_int g2
  dsimp only at b2 d2
  obtain ⟨x3, rfl, b3, d3⟩ := aG_int g3
  dsimp only at b3 d3
  obtain ⟨x4, rfl, b4, d4⟩ := aG_int g4
  dsimp only at b4 d4
  obtain ⟨x5, rfl, b5, d5⟩ := aG_int g5
  dsimp only at b5 d5
  obtain ⟨m1, m2, m3, m4⟩ := hM0
  obtain ⟨T, hT⟩ := rTe_ex hH b0 d0
  obtain ⟨a0, c0, fs0, w0, e1, s0, t0, e4⟩ := m1 (0, 34, 1) (List.mem_of_getElem? (i := 0) rfl)
  obtain rfl : x0 = a0 := Sum.inl.inj (Option.some.inj (Sum.inr.inj (Sum.inr.inj (Option.some.inj (show some (rR x0) = some _ from e1)))))
  obtain rfl : rR x1 = w0 := Option.some.inj (show some (rR x1) = some w0 from e4)
  clear e1 e4
  have f0 : rB2 K n p 246 [rR x0, rI x2, rI x3, rI x4, rI x5] σ := by
    obtain ⟨w, e6, e7⟩ := m4 (3941, [0, 2, 3, 4, 5]) (List.mem_of_getElem? (i := 0) rfl)
    obtain rfl : [rR x0, rI x2, rI x3, rI x4, rI x5] = w := Option.some.inj (show some [rR x0, rI x2, rI x3, rI x4, rI x5] = some w from e6)
    exact (rF_b (r := 3941) (by decide) rfl).mp e7
  have f0 := ro2_246.mp f0
  clear m1 m2 m3 m4
  have q0 : rB2 K n p 247 [rR x0, rI x2, rI x3, rI x4, rI x5] (jup σ x1 (jsto (σ x1) x4.toNatClampNeg x5)) := ro2_247.mpr (by
    obtain ⟨C, y, hY, k1, k2, k3, ⟨g, r, k4⟩, k5, k6, k7⟩ := f0
    refine ⟨C, y, rTY_o hY (Or.inl d1), k1, k2, k3, ⟨_, rRo_up r s0 t0, fun i i0 i1 => ?_⟩, k5, b5, k7⟩
    have hi : x4.toNatClampNeg = x4.toInt.toNat := rfl
    unfold upd
    by_cases ci : i = x4.toInt
    · rw [if_pos (by rw [hi]; omega), ci]
      omega
    · rw [if_neg (by rw [hi]; omega)]
      exact k4 i i0 (by omega))
  exact ⟨p, fun _ => rfl, ⟨(fun q h => by cases h), fun q h => (by cases h), (fun f h => by cases h), (aAllc ⟨_, rfl, rF_p (r := 3957) (by decide) (by decide) q0⟩ (fun f h => by cases h))⟩, [], List.mem_cons_self, fun f h => (by cases h)⟩
theorem rw_rzPn {K : Nat → Nat} {n : Nat} {JX : (Nat → jcell) → Prop} : aGho (rG K n) fa_T K n JX ag_rzPn := by
  refine aGho_of ⟨rfl, rfl⟩ ?_
  intro p σ ρ hH hX hA hM0
  have hG := aAG_of hA.1 (fun i e v he hv => (hA.2 i e v he hv).1)
  clear hA
  obtain ⟨v0, v1, v2, v3, v4, v5, v6, v7, rfl, g0, g1, g2, g3, g4, g5, g6, g7⟩ := rA_8 hG
  clear hG
  obtain ⟨x0, rfl, b0, d0⟩ := rG_ref (by decide) g0
  obtain ⟨x1, rfl, b1, d1⟩ := aG_int g1
  dsimp only at b1 d1
  obtain ⟨x2, rfl, b2, d2⟩ := aG_int g2
  dsimp only at b2 d2
  obtain ⟨x3, rfl, b3, d3⟩ := aG_int g3
  dsimp only at b3 d3
  obtain ⟨x4, rfl, b4, d4⟩ := aG_int g4
  dsimp only at b4 d4
  obtain ⟨x5, rfl, b5, d5⟩ := aG_int g5
  dsimp only at b5 d5
  obtain ⟨x6, rfl, b6, d6⟩ := aG_int g6
  dsimp only at b6 d6
  obtain ⟨x7, rfl, b7, d7⟩ := rG_ref (by decide) g7
  obtain ⟨m1, m2, m3, m4⟩ := hM0
  obtain ⟨T, hT⟩ := rTe_ex hH b0 d0
  obtain ⟨a0, c0, fs0, w0, e1, s0, t0, e4⟩ := m1 (0, 8, 7) (List.mem_of_getElem? (i := 0) rfl)
  obtain rfl : x0 = a0 := Sum.inl.inj (Option.some.inj (Sum.inr.inj (Sum.inr.inj (Option.some.inj (show some (rR x0) = some _ from e1)))))
  obtain rfl : rR x7 = w0 := Option.some.inj (show some (rR x7) = some w0 from e4)
  clear e1 e4
  obtain ⟨a, mc0, ty0, gc0, ic0, e1, sc0, jc0, e4, e5⟩ := m2 (7, ([(1, 301), (4, 1)], 0), 6) (List.mem_of_getElem? (i := 0) rfl)
  obtain rfl : x7 = a := Sum.inl.inj (Option.some.inj (Sum.inr.inj (Sum.inr.inj (Option.some.inj (show some (rR x7) = some _ from e1)))))
  obtain ⟨gc0, rfl⟩ : ∃ g, gc0 = .inl g := by
    rcases gc0 with g | g
    · exact ⟨g, rfl⟩
    · exact absurd (show some (rI x6) = some (.inr (.inl (g ic0))) from e5) (fun h => by cases h)
  have sc0 : σ x7 = .inl (ty0, mc0, .inl gc0) := sc0
  have ec0 : x6 = gc0 ic0 := Sum.inl.inj (Option.some.inj (show some (rI x6) = some _ from e5))
  have kc0 : (ic0 : Int) = (301 * x1.toInt + (1 * x4.toInt + 0)) + 0 := by
    obtain ⟨z, e6, e7⟩ := e4
    obtain rfl : (301 * x1.toInt + (1 * x4.toInt + 0)) = z := Option.some.inj (show some (301 * x1.toInt + (1 * x4.toInt + 0)) = some z from e6)
    exact e7
  clear e1 e4 e5
  have l0 : 0 ≤ (1 * x5.toInt + (-1 * x3.toInt + 0)) + -1 := by
    obtain ⟨z, e6, e7⟩ := m3 ([(5, 1), (3, -1)], -1) (List.mem_of_getElem? (i := 0) rfl)
    obtain rfl : (1 * x5.toInt + (-1 * x3.toInt + 0)) = z := Option.some.inj (show some (1 * x5.toInt + (-1 * x3.toInt + 0)) = some z from e6)
    exact e7
  have l1 : 0 ≤ (-1 * x5.toInt + (1 * x3.toInt + 0)) + 1 := by
    obtain ⟨z, e6, e7⟩ := m3 ([(5, -1), (3, 1)], 1) (List.mem_of_getElem? (i := 1) rfl)
    obtain rfl : (-1 * x5.toInt + (1 * x3.toInt + 0)) = z := Option.some.inj (show some (-1 * x5.toInt + (1 * x3.toInt + 0)) = some z from e6)
    exact e7
  have f0 : rB2 K n p 247 [rR x0, rI x1, rI x2, rI x3, rI x4] σ := by
    obtain ⟨w, e6, e7⟩ := m4 (3957, [0, 1, 2, 3, 4]) (List.mem_of_getElem? (i := 0) rfl)
    obtain rfl : [rR x0, rI x1, rI x2, rI x3, rI x4] = w := Option.some.inj (show some [rR x0, rI x1, rI x2, rI x3, rI x4] = some w from e6)
    exact (rF_b (r := 3957) (by decide) rfl).mp e7
  have f0 := ro2_247.mp f0
  clear m1 m2 m3 m4
  obtain ⟨C, y, hY, k1, k2, k3, ⟨g, r, k4⟩, k5, k6, k7⟩ := f0
  have y0 : y.1 x4.toInt = x6.toInt := rSc_c hY.1.1 s0 t0 sc0 ec0 (by omega)
  have hpr := hY.2.2.2.1 x4.toInt k6 k7
  rw [y0] at hpr
  have r0 : 0 ≤ (1 * x6.toInt + 0) + 0 := by
    omega
  have r1 : 0 ≤ (1 * x4.toInt + (-1 * x6.toInt + 0)) + -1 := by
    omega
  have q0 : rB2 K n p 246 [rR x0, rI x1, rI x2, rI x5, rI x6] σ := ro2_246.mpr (by
    refine ⟨C, y, hY, k1, k2, by omega, ⟨g, r, fun i i0 i1 => k4 i i0 (by omega)⟩, ?_, hpr.1, by omega⟩
    rw [show x5.toInt.toNat = x3.toInt.toNat + 1 by omega]
    show x6.toInt = y.1 (rUa y.1 x3.toInt.toNat x2.toInt)
    rw [← k5, y0])
  exact ⟨p, fun _ => rfl, ⟨(fun q h => by cases h), fun q h => (by cases h), (aAllc ⟨_, rfl, r0⟩ (aAllc ⟨_, rfl, r1⟩ (fun f h => by cases h))), (aAllc ⟨_, rfl, (rF_b (r := 3941) (by decide) rfl).mpr q0⟩ (fun f h => by cases h))⟩, [], List.mem_cons_self, fun f h => (by cases h)⟩
theorem rw_rzM0 {K : Nat → Nat} {n : Nat} {JX : (Nat → jcell) → Prop} : aGho (rG K n) fa_T K n JX ag_rzM0 := by
  refine aGho_of ⟨rfl, rfl⟩ ?_
  intro p σ ρ hH hX hA hM0
  have hG := aAG_of hA.1 (fun i e v he hv => (hA.2 i e v he hv).1)
  clear hA
  obtain ⟨v0, v1, v2, rfl, g0, g1, g2⟩ := rA_3 hG
  clear hG
  obtain ⟨x0, rfl, b0, d0⟩ := rG_ref (by decide) g0
  obtain ⟨x1, rfl, b1, d1⟩ := aG_int g1
  dsimp only at b1 d1
  obtain ⟨x2, rfl, b2, d2⟩ := aG_int g2
  dsimp only at b2 d2
  obtain ⟨m1, m2, m3, m4⟩ := hM0
  obtain ⟨T, hT⟩ := rTe_ex hH b0 d0
  clear m1 m2 m3 m4
  have q0 : rB2 K n p 248 [rR x0, rI x1, rI x2] σ := ro2_248.mpr (by
    obtain ⟨g5, rg5⟩ := rRo_ex (ko := 62) (f := 16) (kr := 74) (len := 128) hH rfl rfl rfl (by decide) b0 d0
    obtain ⟨gm, rgm⟩ := rRo_ex (ko := 62) (f := 24) (kr := 82) (len := 64) hH rfl rfl rfl (by decide) b0 d0
    exact ⟨b1, g5, gm, rg5, rgm, fun j j0 j1 => by omega⟩)
  exact ⟨p, fun _ => rfl, ⟨(fun q h => by cases h), fun q h => (by cases h), (fun f h => by cases h), (aAllc ⟨_, rfl, (rF_b (r := 3971) (by decide) rfl).mpr q0⟩ (fun f h => by cases h))⟩, [], List.mem_cons_self, fun f h => (by cases h)⟩
theorem rw_rzMs {K : Nat → Nat} {n : Nat} {JX : (Nat → jcell) → Prop} : aGho (rG K n) fa_T K n JX ag_rzMs := by
  refine aGho_of ⟨rfl, rfl⟩ ?_
  intro p σ ρ hH hX hA hM0
  have hG := aAG_of hA.1 (fun i e v he hv => (hA.2 i e v he hv).1)
  clear hA
  obtain ⟨v0, v1, v2, v3, v4, v5, rfl, g0, g1, g2, g3, g4, g5⟩ := rA_6 hG
  clear hG
  obtain ⟨x0, rfl, b0, d0⟩ := rG_ref (by decide) g0
  obtain ⟨x1, rfl, b1, d1⟩ := rG_ref (by decide) g1
  obtain ⟨x2, rfl, b2, d2⟩ := aG_int g2
  dsimp only at b2 d2
  obtain ⟨x3, rfl, b3, d3⟩ := aG_int g3
  dsimp only at b3 d3
  obtain ⟨x4, rfl, b4, d4⟩ := aG_int g4
  dsimp only at b4 d4
  obtain ⟨x5, rfl, b5, d5⟩ := rG_ref (by decide) g5
  obtain ⟨m1, m2, m3, m4⟩ := hM0
  obtain ⟨T, hT⟩ := rTe_ex hH b0 d0
  obtain ⟨a0, c0, fs0, w0, e1, s0, t0, e4⟩ := m1 (0, 16, 5) (List.mem_of_getElem? (i := 0) rfl)
  obtain rfl : x0 = a0 := Sum.inl.inj (Option.some.inj (Sum.inr.inj (Sum.inr.inj (Option.some.inj (show some (rR x0) = some _ from e1)))))
  obtain rfl : rR x5 = w0 := Option.some.inj (show some (rR x5) = some w0 from e4)
  clear e1 e4
  obtain ⟨a1, c1, fs1, w1, e1, s1, t1, e4⟩ := m1 (0, 24, 1) (List.mem_of_getElem? (i := 1) rfl)
  obtain rfl : x0 = a1 := Sum.inl.inj (Option.some.inj (Sum.inr.inj (Sum.inr.inj (Option.some.inj (show some (rR x0) = some _ from e1)))))
  obtain rfl : rR x1 = w1 := Option.some.inj (show some (rR x1) = some w1 from e4)
  clear e1 e4
  obtain ⟨a, mc0, ty0, gc0, ic0, e1, sc0, jc0, e4, e5⟩ := m2 (5, ([(2, 64), (3, 1)], 0), 4) (List.mem_of_getElem? (i := 0) rfl)
  obtain rfl : x5 = a := Sum.inl.inj (Option.some.inj (Sum.inr.inj (Sum.inr.inj (Option.some.inj (show some (rR x5) = some _ from e1)))))
  obtain ⟨gc0, rfl⟩ : ∃ g, gc0 = .inl g := by
    rcases gc0 with g | g
    · exact ⟨g, rfl⟩
    · exact absurd (show some (rI x4) = some (.inr (.inl (g ic0))) from e5) (fun h => by cases h)
  have sc0 : σ x5 = .inl (ty0, mc0, .inl gc0) := sc0
  have ec0 : x4 = gc0 ic0 := Sum.inl.inj (Option.some.inj (show some (rI x4) = some _ from e5))
  have kc0 : (ic0 : Int) = (64 * x2.toInt + (1 * x3.toInt + 0)) + 0 := by
    obtain ⟨z, e6, e7⟩ := e4
    obtain rfl : (64 * x2.toInt + (1 * x3.toInt + 0)) = z := Option.some.inj (show some (64 * x2.toInt + (1 * x3.toInt + 0)) = some z from e6)
    exact e7
  clear e1 e4 e5
  have f0 : rB2 K n p 248 [rR x0, rI x2, rI x3] σ := by
    obtain ⟨w, e6, e7⟩ := m4 (3971, [0, 2, 3]) (List.mem_of_getElem? (i := 0) rfl)
    obtain rfl : [rR x0, rI x2, rI x3] = w := Option.some.inj (show some [rR x0, rI x2, rI x3] = some w from e6)
    exact (rF_b (r := 3971) (by decide) rfl).mp e7
  have f0 := ro2_248.mp f0
  clear m1 m2 m3 m4
  have q0 : rB2 K n p 249 [rR x0, rI x2, rI x3] (jup σ x1 (jsto (σ x1) x3.toNatClampNeg x4)) := ro2_249.mpr (by
    obtain ⟨k0, g5, gm, r5, rm, kk⟩ := f0
    have e5 := rRo_c (i := ic0) r5 s0 t0 sc0 ec0
    refine ⟨k0, g5, _, rRo_o r5 (by omega) (by omega), rRo_up rm s1 t1, fun j j0 j1 j2 => ?_⟩
    have hi : x3.toNatClampNeg = x3.toInt.toNat := rfl
    unfold upd
    by_cases cj : j = x3.toInt
    · rw [if_pos (by rw [hi]; omega), cj, show (64 * x2.toInt + x3.toInt).toNat = ic0 by omega]
      exact e5.symm
    · rw [if_neg (by rw [hi]; omega)]
      exact kk j j0 (by omega) j2)
  exact ⟨p, fun _ => rfl, ⟨(fun q h => by cases h), fun q h => (by cases h), (fun f h => by cases h), (aAllc ⟨_, rfl, rF_p (r := 3987) (by decide) (by decide) q0⟩ (fun f h => by cases h))⟩, [], List.mem_cons_self, fun f h => (by cases h)⟩
theorem rw_rzMn {K : Nat → Nat} {n : Nat} {JX : (Nat → jcell) → Prop} : aGho (rG K n) fa_T K n JX ag_rzMn := by
  refine aGho_of ⟨rfl, rfl⟩ ?_
  intro p σ ρ hH hX hA hM0
  have hG := aAG_of hA.1 (fun i e v he hv => (hA.2 i e v he hv).1)
  clear hA
  obtain ⟨v0, v1, v2, v3, rfl, g0, g1, g2, g3⟩ := rA_4 hG
  clear hG
  obtain ⟨x0, rfl, b0, d0⟩ := rG_ref (by decide) g0
  obtain ⟨x1, rfl, b1, d1⟩ := aG_int g1
  dsimp only at b1 d1
  obtain ⟨x2, rfl, b2, d2⟩ := aG_int g2
  dsimp only at b2 d2
  obtain ⟨x3, rfl, b3, d3⟩ := aG_int g3
  dsimp only at b3 d3
  obtain ⟨m1, m2, m3, m4⟩ := hM0
  obtain ⟨T, hT⟩ := rTe_ex hH b0 d0
  have l0 : 0 ≤ (1 * x3.toInt + (-1 * x2.toInt + 0)) + -1 := by
    obtain ⟨z, e6, e7⟩ := m3 ([(3, 1), (2, -1)], -1) (List.mem_of_getElem? (i := 0) rfl)
    obtain rfl : (1 * x3.toInt + (-1 * x2.toInt + 0)) = z := Option.some.inj (show some (1 * x3.toInt + (-1 * x2.toInt + 0)) = some z from e6)
    exact e7
  have l1 : 0 ≤ (-1 * x3.toInt + (1 * x2.toInt + 0)) + 1 := by
    obtain ⟨z, e6, e7⟩ := m3 ([(3, -1), (2, 1)], 1) (List.mem_of_getElem? (i := 1) rfl)
    obtain rfl : (-1 * x3.toInt + (1 * x2.toInt + 0)) = z := Option.some.inj (show some (-1 * x3.toInt + (1 * x2.toInt + 0)) = some z from e6)
    exact e7
  have f0 : rB2 K n p 249 [rR x0, rI x1, rI x2] σ := by
    obtain ⟨w, e6, e7⟩ := m4 (3987, [0, 1, 2]) (List.mem_of_getElem? (i := 0) rfl)
    obtain rfl : [rR x0, rI x1, rI x2] = w := Option.some.inj (show some [rR x0, rI x1, rI x2] = some w from e6)
    exact (rF_b (r := 3987) (by decide) rfl).mp e7
  have f0 := ro2_249.mp f0
  clear m1 m2 m3 m4
  have q0 : rB2 K n p 248 [rR x0, rI x1, rI x3] σ := ro2_248.mpr (by
    obtain ⟨k0, g5, gm, r5, rm, kk⟩ := f0
    exact ⟨k0, g5, gm, r5, rm, fun j j0 j1 j2 => kk j j0 (by omega) j2⟩)
  exact ⟨p, fun _ => rfl, ⟨(fun q h => by cases h), fun q h => (by cases h), (fun f h => by cases h), (aAllc ⟨_, rfl, (rF_b (r := 3971) (by decide) rfl).mpr q0⟩ (fun f h => by cases h))⟩, [], List.mem_cons_self, fun f h => (by cases h)⟩
theorem rw_rzR0 {K : Nat → Nat} {n : Nat} {JX : (Nat → jcell) → Prop} : aGho (rG K n) fa_T K n JX ag_rzR0 := by
  refine aGho_of ⟨rfl, rfl⟩ ?_
  intro p σ ρ hH hX hA hM0
  have hG := aAG_of hA.1 (fun i e v he hv => (hA.2 i e v he hv).1)
  clear hA
  obtain ⟨v0, v1, v2, v3, v4, rfl, g0, g1, g2, g3, g4⟩ := rA_5 hG
  clear hG
  obtain ⟨x0, rfl, b0, d0⟩ := rG_ref (by decide) g0
  obtain ⟨x1, rfl, b1, d1⟩ := rG_ref (by decide) g1
  obtain ⟨x2, rfl, b2, d2⟩ := aG_int g2
  dsimp only at b2 d2
  obtain ⟨x3, rfl, b3, d3⟩ := aG_int g3
  dsimp only at b3 d3
  obtain ⟨x4, rfl, b4, d4⟩ := aG_int g4
  dsimp only at b4 d4
  obtain ⟨m1, m2, m3, m4⟩ := hM0
  obtain ⟨T, hT⟩ := rTe_ex hH b0 d0
  obtain ⟨a0, c0, fs0, w0, e1, s0, t0, e4⟩ := m1 (0, 17, 1) (List.mem_of_getElem? (i := 0) rfl)
  obtain rfl : x0 = a0 := Sum.inl.inj (Option.some.inj (Sum.inr.inj (Sum.inr.inj (Option.some.inj (show some (rR x0) = some _ from e1)))))
  obtain rfl : rR x1 = w0 := Option.some.inj (show some (rR x1) = some w0 from e4)
  clear e1 e4
  obtain ⟨a, mc0, ty0, gc0, ic0, e1, sc0, jc0, e4, e5⟩ := m2 (1, ([(2, 5)], 0), 4) (List.mem_of_getElem? (i := 0) rfl)
  obtain rfl : x1 = a := Sum.inl.inj (Option.some.inj (Sum.inr.inj (Sum.inr.inj (Option.some.inj (show some (rR x1) = some _ from e1)))))
  obtain ⟨gc0, rfl⟩ : ∃ g, gc0 = .inl g := by
    rcases gc0 with g | g
    · exact ⟨g, rfl⟩
    · exact absurd (show some (rI x4) = some (.inr (.inl (g ic0))) from e5) (fun h => by cases h)
  have sc0 : σ x1 = .inl (ty0, mc0, .inl gc0) := sc0
  have ec0 : x4 = gc0 ic0 := Sum.inl.inj (Option.some.inj (show some (rI x4) = some _ from e5))
  have kc0 : (ic0 : Int) = (5 * x2.toInt + 0) + 0 := by
    obtain ⟨z, e6, e7⟩ := e4
    obtain rfl : (5 * x2.toInt + 0) = z := Option.some.inj (show some (5 * x2.toInt + 0) = some z from e6)
    exact e7
  clear e1 e4 e5
  have f0 : rB2 K n p 241 [rR x0, rI x2, rI x3] σ := by
    obtain ⟨w, e6, e7⟩ := m4 (3859, [0, 2, 3]) (List.mem_of_getElem? (i := 0) rfl)
    obtain rfl : [rR x0, rI x2, rI x3] = w := Option.some.inj (show some [rR x0, rI x2, rI x3] = some w from e6)
    exact (rF_b (r := 3859) (by decide) rfl).mp e7
  obtain ⟨C, y, hY, f0⟩ := ro2_241.mp f0
  clear m1 m2 m3 m4
  obtain ⟨g5, g6, r5, r6, eq, ez⟩ := hY.1.2.2.2.2
  have e6 := rRo_c (i := ic0) r6 s0 t0 sc0 ec0
  have hv : y.2.2.2.2.1.2.1 = x4.toInt := by
    rw [eq]
    show (g6 (5 * x2.toInt).toNat).toInt = x4.toInt
    rw [show (5 * x2.toInt).toNat = ic0 by omega]
    exact e6
  have hg := hY.2.2.1.2.2.2.2
  have hb : 0 ≤ x4.toInt ∧ x4.toInt ≤ 1 := by rw [← hv]; exact ⟨hg.1.1, hg.1.2.1⟩
  have r0 : 0 ≤ (1 * x4.toInt + 0) + 0 := by
    omega
  have r1 : 0 ≤ (-1 * x4.toInt + 0) + 1 := by
    omega
  have q0 : rB2 K n p 253 [rR x0, rI x2, rI x4] σ := ro2_253.mpr ⟨C, y, hY, by
    exact hv⟩
  exact ⟨p, fun _ => rfl, ⟨(fun q h => by cases h), fun q h => (by cases h), (aAllc ⟨_, rfl, r0⟩ (aAllc ⟨_, rfl, r1⟩ (fun f h => by cases h))), (aAllc ⟨_, rfl, (rF_b (r := 4051) (by decide) rfl).mpr q0⟩ (fun f h => by cases h))⟩, [], List.mem_cons_self, fun f h => (by cases h)⟩
theorem rw_rzR1 {K : Nat → Nat} {n : Nat} {JX : (Nat → jcell) → Prop} : aGho (rG K n) fa_T K n JX ag_rzR1 := by
  refine aGho_of ⟨rfl, rfl⟩ ?_
  intro p σ ρ hH hX hA hM0
  have hG := aAG_of hA.1 (fun i e v he hv => (hA.2 i e v he hv).1)
  clear hA
  obtain ⟨v0, v1, v2, v3, v4, rfl, g0, g1, g2, g3, g4⟩ := rA_5 hG
  clear hG
  obtain ⟨x0, rfl, b0, d0⟩ := rG_ref (by decide) g0
  obtain ⟨x1, rfl, b1, d1⟩ := rG_ref (by decide) g1
  obtain ⟨x2, rfl, b2, d2⟩ := aG_int g2
  dsimp only at b2 d2
  obtain ⟨x3, rfl, b3, d3⟩ := aG_int g3
  dsimp only at b3 d3
  obtain ⟨x4, rfl, b4, d4⟩ := aG_int g4
  dsimp only at b4 d4
  obtain ⟨m1, m2, m3, m4⟩ := hM0
  obtain ⟨T, hT⟩ := rTe_ex hH b0 d0
  obtain ⟨a0, c0, fs0, w0, e1, s0, t0, e4⟩ := m1 (0, 17, 1) (List.mem_of_getElem? (i := 0) rfl)
  obtain rfl : x0 = a0 := Sum.inl.inj (Option.some.inj (Sum.inr.inj (Sum.inr.inj (Option.some.inj (show some (rR x0) = some _ from e1)))))
  obtain rfl : rR x1 = w0 := Option.some.inj (show some (rR x1) = some w0 from e4)
  clear e1 e4
  obtain ⟨a, mc0, ty0, gc0, ic0, e1, sc0, jc0, e4, e5⟩ := m2 (1, ([(2, 5)], 1), 4) (List.mem_of_getElem? (i := 0) rfl)
  obtain rfl : x1 = a := Sum.inl.inj (Option.some.inj (Sum.inr.inj (Sum.inr.inj (Option.some.inj (show some (rR x1) = some _ from e1)))))
  obtain ⟨gc0, rfl⟩ : ∃ g, gc0 = .inl g := by
    rcases gc0 with g | g
    · exact ⟨g, rfl⟩
    · exact absurd (show some (rI x4) = some (.inr (.inl (g ic0))) from e5) (fun h => by cases h)
  have sc0 : σ x1 = .inl (ty0, mc0, .inl gc0) := sc0
  have ec0 : x4 = gc0 ic0 := Sum.inl.inj (Option.some.inj (show some (rI x4) = some _ from e5))
  have kc0 : (ic0 : Int) = (5 * x2.toInt + 0) + 1 := by
    obtain ⟨z, e6, e7⟩ := e4
    obtain rfl : (5 * x2.toInt + 0) = z := Option.some.inj (show some (5 * x2.toInt + 0) = some z from e6)
    exact e7
  clear e1 e4 e5
  have f0 : rB2 K n p 241 [rR x0, rI x2, rI x3] σ := by
    obtain ⟨w, e6, e7⟩ := m4 (3859, [0, 2, 3]) (List.mem_of_getElem? (i := 0) rfl)
    obtain rfl : [rR x0, rI x2, rI x3] = w := Option.some.inj (show some [rR x0, rI x2, rI x3] = some w from e6)
    exact (rF_b (r := 3859) (by decide) rfl).mp e7
  obtain ⟨C, y, hY, f0⟩ := ro2_241.mp f0
  clear m1 m2 m3 m4
  obtain ⟨g5, g6, r5, r6, eq, ez⟩ := hY.1.2.2.2.2
  have e6 := rRo_c (i := ic0) r6 s0 t0 sc0 ec0
  have hv : y.2.2.2.2.1.2.2.1 = x4.toInt := by
    rw [eq]
    show (g6 (5 * x2.toInt + 1).toNat).toInt = x4.toInt
    rw [show (5 * x2.toInt + 1).toNat = ic0 by omega]
    exact e6
  have hg := hY.2.2.1.2.2.2.2
  have hb : 0 ≤ x4.toInt ∧ x4.toInt ≤ 15 := by rw [← hv]; exact hg.2
  have r0 : 0 ≤ (1 * x4.toInt + 0) + 0 := by
    omega
  have r1 : 0 ≤ (-1 * x4.toInt + 0) + 15 := by
    omega
  have q0 : rB2 K n p 254 [rR x0, rI x2, rI x4] σ := ro2_254.mpr ⟨C, y, hY, by
    exact hv⟩
  exact ⟨p, fun _ => rfl, ⟨(fun q h => by cases h), fun q h => (by cases h), (aAllc ⟨_, rfl, r0⟩ (aAllc ⟨_, rfl, r1⟩ (fun f h => by cases h))), (aAllc ⟨_, rfl, (rF_b (r := 4067) (by decide) rfl).mpr q0⟩ (fun f h => by cases h))⟩, [], List.mem_cons_self, fun f h => (by cases h)⟩
theorem rw_rzR2 {K : Nat → Nat} {n : Nat} {JX : (Nat → jcell) → Prop} : aGho (rG K n) fa_T K n JX ag_rzR2 := by
  refine aGho_of ⟨rfl, rfl⟩ ?_
  intro p σ ρ hH hX hA hM0
  have hG := aAG_of hA.1 (fun i e v he hv => (hA.2 i e v he hv).1)
  clear hA
  obtain ⟨v0, v1, v2, v3, v4, rfl, g0, g1, g2, g3, g4⟩ := rA_5 hG
  clear hG
  obtain ⟨x0, rfl, b0, d0⟩ := rG_ref (by decide) g0
  obtain ⟨x1, rfl, b1, d1⟩ := rG_ref (by decide) g1
  obtain ⟨x2, rfl, b2, d2⟩ := aG_int g2
  dsimp only at b2 d2
  obtain ⟨x3, rfl, b3, d3⟩ := aG_int g3
  dsimp only at b3 d3
  obtain ⟨x4, rfl, b4, d4⟩ := aG_int g4
  dsimp only at b4 d4
  obtain ⟨m1, m2, m3, m4⟩ := hM0
  obtain ⟨T, hT⟩ := rTe_ex hH b0 d0
  obtain ⟨a0, c0, fs0, w0, e1, s0, t0, e4⟩ := m1 (0, 17, 1) (List.mem_of_getElem? (i := 0) rfl)
  obtain rfl : x0 = a0 := Sum.inl.inj (Option.some.inj (Sum.inr.inj (Sum.inr.inj (Option.some.inj (show some (rR x0) = some _ from e1)))))
  obtain rfl : rR x1 = w0 := Option.some.inj (show some (rR x1) = some w0 from e4)
  clear e1 e4
  obtain ⟨a, mc0, ty0, gc0, ic0, e1, sc0, jc0, e4, e5⟩ := m2 (1, ([(2, 5)], 2), 4) (List.mem_of_getElem? (i := 0) rfl)
  obtain rfl : x1 = a := Sum.inl.inj (Option.some.inj (Sum.inr.inj (Sum.inr.inj (Option.some.inj (show some (rR x1) = some _ from e1)))))
  obtain ⟨gc0, rfl⟩ : ∃ g, gc0 = .inl g := by
    rcases gc0 with g | g
    · exact ⟨g, rfl⟩
    · exact absurd (show some (rI x4) = some (.inr (.inl (g ic0))) from e5) (fun h => by cases h)
  have sc0 : σ x1 = .inl (ty0, mc0, .inl gc0) := sc0
  have ec0 : x4 = gc0 ic0 := Sum.inl.inj (Option.some.inj (show some (rI x4) = some _ from e5))
  have kc0 : (ic0 : Int) = (5 * x2.toInt + 0) + 2 := by
    obtain ⟨z, e6, e7⟩ := e4
    obtain rfl : (5 * x2.toInt + 0) = z := Option.some.inj (show some (5 * x2.toInt + 0) = some z from e6)
    exact e7
  clear e1 e4 e5
  have f0 : rB2 K n p 241 [rR x0, rI x2, rI x3] σ := by
    obtain ⟨w, e6, e7⟩ := m4 (3859, [0, 2, 3]) (List.mem_of_getElem? (i := 0) rfl)
    obtain rfl : [rR x0, rI x2, rI x3] = w := Option.some.inj (show some [rR x0, rI x2, rI x3] = some w from e6)
    exact (rF_b (r := 3859) (by decide) rfl).mp e7
  obtain ⟨C, y, hY, f0⟩ := ro2_241.mp f0
  clear m1 m2 m3 m4
  obtain ⟨g5, g6, r5, r6, eq, ez⟩ := hY.1.2.2.2.2
  have e6 := rRo_c (i := ic0) r6 s0 t0 sc0 ec0
  have hv : y.2.2.2.2.1.2.2.2 = x4.toInt := by
    rw [eq]
    show (g6 (5 * x2.toInt + 2).toNat).toInt = x4.toInt
    rw [show (5 * x2.toInt + 2).toNat = ic0 by omega]
    exact e6
  have hg := hY.2.2.1.2.2.2.2
  have hb : -1 ≤ x4.toInt ∧ x4.toInt ≤ 63 := by
    rcases hg.1.2.2.2.2.1 with h9 | ⟨h9, h8, -⟩
    · rw [hv] at h9; omega
    · rw [hv] at h9 h8; omega
  have r0 : 0 ≤ (1 * x4.toInt + 0) + 1 := by
    omega
  have r1 : 0 ≤ (-1 * x4.toInt + 0) + 63 := by
    omega
  have q0 : rB2 K n p 255 [rR x0, rI x2, rI x4] σ := ro2_255.mpr ⟨C, y, hY, by
    exact hv⟩
  exact ⟨p, fun _ => rfl, ⟨(fun q h => by cases h), fun q h => (by cases h), (aAllc ⟨_, rfl, r0⟩ (aAllc ⟨_, rfl, r1⟩ (fun f h => by cases h))), (aAllc ⟨_, rfl, (rF_b (r := 4083) (by decide) rfl).mpr q0⟩ (fun f h => by cases h))⟩, [], List.mem_cons_self, fun f h => (by cases h)⟩
theorem rw_rzRn {K : Nat → Nat} {n : Nat} {JX : (Nat → jcell) → Prop} : aGho (rG K n) fa_T K n JX ag_rzRn := by
  refine aGho_of ⟨rfl, rfl⟩ ?_
  intro p σ ρ hH hX hA hM0
  have hG := aAG_of hA.1 (fun i e v he hv => (hA.2 i e v he hv).1)
  clear hA
  obtain ⟨v0, v1, v2, v3, v4, rfl, g0, g1, g2, g3, g4⟩ := rA_5 hG
  clear hG
  obtain ⟨x0, rfl, b0, d0⟩ := rG_ref (by decide) g0
  obtain ⟨x1, rfl, b1, d1⟩ := rG_ref (by decide) g1
  obtain ⟨x2, rfl, b2, d2⟩ := aG_int g2
  dsimp only at b2 d2
  obtain ⟨x3, rfl, b3, d3⟩ := aG_int g3
  dsimp only at b3 d3
  obtain ⟨x4, rfl, b4, d4⟩ := aG_int g4
  dsimp only at b4 d4
  obtain ⟨m1, m2, m3, m4⟩ := hM0
  obtain ⟨T, hT⟩ := rTe_ex hH b0 d0
  obtain ⟨a0, c0, fs0, w0, e1, s0, t0, e4⟩ := m1 (0, 17, 1) (List.mem_of_getElem? (i := 0) rfl)
  obtain rfl : x0 = a0 := Sum.inl.inj (Option.some.inj (Sum.inr.inj (Sum.inr.inj (Option.some.inj (show some (rR x0) = some _ from e1)))))
  obtain rfl : rR x1 = w0 := Option.some.inj (show some (rR x1) = some w0 from e4)
  clear e1 e4
  obtain ⟨a, mc0, ty0, gc0, ic0, e1, sc0, jc0, e4, e5⟩ := m2 (1, ([(2, 5)], 4), 4) (List.mem_of_getElem? (i := 0) rfl)
  obtain rfl : x1 = a := Sum.inl.inj (Option.some.inj (Sum.inr.inj (Sum.inr.inj (Option.some.inj (show some (rR x1) = some _ from e1)))))
  obtain ⟨gc0, rfl⟩ : ∃ g, gc0 = .inl g := by
    rcases gc0 with g | g
    · exact ⟨g, rfl⟩
    · exact absurd (show some (rI x4) = some (.inr (.inl (g ic0))) from e5) (fun h => by cases h)
  have sc0 : σ x1 = .inl (ty0, mc0, .inl gc0) := sc0
  have ec0 : x4 = gc0 ic0 := Sum.inl.inj (Option.some.inj (show some (rI x4) = some _ from e5))
  have kc0 : (ic0 : Int) = (5 * x2.toInt + 0) + 4 := by
    obtain ⟨z, e6, e7⟩ := e4
    obtain rfl : (5 * x2.toInt + 0) = z := Option.some.inj (show some (5 * x2.toInt + 0) = some z from e6)
    exact e7
  clear e1 e4 e5
  have f0 : rB2 K n p 241 [rR x0, rI x2, rI x3] σ := by
    obtain ⟨w, e6, e7⟩ := m4 (3859, [0, 2, 3]) (List.mem_of_getElem? (i := 0) rfl)
    obtain rfl : [rR x0, rI x2, rI x3] = w := Option.some.inj (show some [rR x0, rI x2, rI x3] = some w from e6)
    exact (rF_b (r := 3859) (by decide) rfl).mp e7
  obtain ⟨C, y, hY, f0⟩ := ro2_241.mp f0
  clear m1 m2 m3 m4
  obtain ⟨g5, g6, r5, r6, eq, ez⟩ := hY.1.2.2.2.2
  have e6 := rRo_c (i := ic0) r6 s0 t0 sc0 ec0
  have hv : y.2.2.2.2.2 = x4.toInt := by
    rw [ez, show (5 * x2.toInt + 4).toNat = ic0 by omega]
    exact e6
  have h1 := hY.2.2.1.2.2.1
  have h2 := hY.2.2.1.2.2.2.1
  rw [hv] at h1 h2
  have r0 : 0 ≤ (1 * x4.toInt + 0) + 0 := by
    omega
  have r1 : 0 ≤ (-1 * x4.toInt + 0) + 999 := by
    omega
  exact ⟨p, fun _ => rfl, ⟨(fun q h => by cases h), fun q h => (by cases h), (aAllc ⟨_, rfl, r0⟩ (aAllc ⟨_, rfl, r1⟩ (fun f h => by cases h))), (fun f h => by cases h)⟩, [], List.mem_cons_self, fun f h => (by cases h)⟩
theorem rw_rzS0 {K : Nat → Nat} {n : Nat} {JX : (Nat → jcell) → Prop} : aGho (rG K n) fa_T K n JX ag_rzS0 := by
  refine aGho_of ⟨rfl, rfl⟩ ?_
  intro p σ ρ hH hX hA hM0
  have hG := aAG_of hA.1 (fun i e v he hv => (hA.2 i e v he hv).1)
  clear hA
  obtain ⟨v0, v1, v2, v3, v4, v5, v6, v7, v8, rfl, g0, g1, g2, g3, g4, g5, g6, g7, g8⟩ := rA_9 hG
  clear hG
  obtain ⟨x0, rfl, b0, d0⟩ := rG_ref (by decide) g0
  obtain ⟨x1, rfl, b1, d1⟩ := aG_int g1
  dsimp only at b1 d1
  obtain ⟨x2, rfl, b2, d2⟩ := aG_int g2
  dsimp only at b2 d2
  obtain ⟨x3, rfl, b3, d3⟩ := aG_int g3
  dsimp only at b3 d3
  obtain ⟨x4, rfl, b4, d4⟩ := aG_int g4
  dsimp only at b4 d4
  obtain ⟨x5, rfl, b5, d5⟩ := aG_int g5
  dsimp only at b5 d5
  obtain ⟨x6, rfl, b6, d6⟩ := aG_int g6
  dsimp only at b6 d6
  obtain ⟨x7, rfl, b7, d7⟩ := aG_int g7
  dsimp only at b7 d7
  obtain ⟨x8, rfl, b8, d8⟩ := aG_int g8
  dsimp only at b8 d8
  obtain ⟨m1, m2, m3, m4⟩ := hM0
  obtain ⟨T, hT⟩ := rTe_ex hH b0 d0
  obtain ⟨a0, c0, fs0, w0, e1, s0, t0, e4⟩ := m1 (0, 25, 6) (List.mem_of_getElem? (i := 0) rfl)
  obtain rfl : x0 = a0 := Sum.inl.inj (Option.some.inj (Sum.inr.inj (Sum.inr.inj (Option.some.inj (show some (rR x0) = some _ from e1)))))
  obtain rfl : rI x6 = w0 := Option.some.inj (show some (rI x6) = some w0 from e4)
  clear e1 e4
  obtain ⟨a1, c1, fs1, w1, e1, s1, t1, e4⟩ := m1 (0, 26, 7) (List.mem_of_getElem? (i := 1) rfl)
  obtain rfl : x0 = a1 := Sum.inl.inj (Option.some.inj (Sum.inr.inj (Sum.inr.inj (Option.some.inj (show some (rR x0) = some _ from e1)))))
  obtain rfl : rI x7 = w1 := Option.some.inj (show some (rI x7) = some w1 from e4)
  clear e1 e4
  obtain ⟨a2, c2, fs2, w2, e1, s2, t2, e4⟩ := m1 (0, 27, 8) (List.mem_of_getElem? (i := 2) rfl)
  obtain rfl : x0 = a2 := Sum.inl.inj (Option.some.inj (Sum.inr.inj (Sum.inr.inj (Option.some.inj (show some (rR x0) = some _ from e1)))))
  obtain rfl : rI x8 = w2 := Option.some.inj (show some (rI x8) = some w2 from e4)
  clear e1 e4
  have l0 : 0 ≤ (1 * x4.toInt + (-1 * x3.toInt + 0)) + 1 := by
    obtain ⟨z, e6, e7⟩ := m3 ([(4, 1), (3, -1)], 1) (List.mem_of_getElem? (i := 0) rfl)
    obtain rfl : (1 * x4.toInt + (-1 * x3.toInt + 0)) = z := Option.some.inj (show some (1 * x4.toInt + (-1 * x3.toInt + 0)) = some z from e6)
    exact e7
  have l1 : 0 ≤ (-1 * x4.toInt + (1 * x3.toInt + 0)) + -1 := by
    obtain ⟨z, e6, e7⟩ := m3 ([(4, -1), (3, 1)], -1) (List.mem_of_getElem? (i := 1) rfl)
    obtain rfl : (-1 * x4.toInt + (1 * x3.toInt + 0)) = z := Option.some.inj (show some (-1 * x4.toInt + (1 * x3.toInt + 0)) = some z from e6)
    exact e7
  have f0 : rB2 K n p 252 [rR x0, rI x1, rI x2, rI x3, rI x3] σ := by
    obtain ⟨w, e6, e7⟩ := m4 (4037, [0, 1, 2, 3, 3]) (List.mem_of_getElem? (i := 0) rfl)
    obtain rfl : [rR x0, rI x1, rI x2, rI x3, rI x3] = w := Option.some.inj (show some [rR x0, rI x1, rI x2, rI x3, rI x3] = some w from e6)
    exact (rF_b (r := 4037) (by decide) rfl).mp e7
  have f0 := ro2_252.mp f0
  have f1 : rB2 K n p 248 [rR x0, rI x1, rI x5] σ := by
    obtain ⟨w, e6, e7⟩ := m4 (3971, [0, 1, 5]) (List.mem_of_getElem? (i := 1) rfl)
    obtain rfl : [rR x0, rI x1, rI x5] = w := Option.some.inj (show some [rR x0, rI x1, rI x5] = some w from e6)
    exact (rF_b (r := 3971) (by decide) rfl).mp e7
  have f1 := ro2_248.mp f1
  have f2 : rB2 K n p 253 [rR x0, rI x1, rI x6] σ := by
    obtain ⟨w, e6, e7⟩ := m4 (4051, [0, 1, 6]) (List.mem_of_getElem? (i := 2) rfl)
    obtain rfl : [rR x0, rI x1, rI x6] = w := Option.some.inj (show some [rR x0, rI x1, rI x6] = some w from e6)
    exact (rF_b (r := 4051) (by decide) rfl).mp e7
  obtain ⟨C, y, hY, f2⟩ := ro2_253.mp f2
  have f3 : rB2 K n p 254 [rR x0, rI x1, rI x7] σ := by
    obtain ⟨w, e6, e7⟩ := m4 (4067, [0, 1, 7]) (List.mem_of_getElem? (i := 3) rfl)
    obtain rfl : [rR x0, rI x1, rI x7] = w := Option.some.inj (show some [rR x0, rI x1, rI x7] = some w from e6)
    exact (rF_b (r := 4067) (by decide) rfl).mp e7
  obtain ⟨C9, y9, h9, f3⟩ := ro2_254.mp f3
  obtain ⟨rfl, rfl⟩ := rTY_u hY h9
  clear h9
  have f4 : rB2 K n p 255 [rR x0, rI x1, rI x8] σ := by
    obtain ⟨w, e6, e7⟩ := m4 (4083, [0, 1, 8]) (List.mem_of_getElem? (i := 4) rfl)
    obtain rfl : [rR x0, rI x1, rI x8] = w := Option.some.inj (show some [rR x0, rI x1, rI x8] = some w from e6)
    exact (rF_b (r := 4083) (by decide) rfl).mp e7
  obtain ⟨C9, y9, h9, f4⟩ := ro2_255.mp f4
  obtain ⟨rfl, rfl⟩ := rTY_u hY h9
  clear h9
  clear m1 m2 m3 m4
  have q0 : rB2 K n p 250 [rR x0, rI x1, rI x2, rI x3, rI x4] σ := ro2_250.mpr (by
    obtain ⟨C9, y9, h9, k1, k2, k3, k4, k5⟩ := f0
    obtain ⟨rfl, rfl⟩ := rTY_u hY h9
    refine ⟨C, y, hY, k1, k2, k3, k4, k5, by omega, by omega, ?_⟩
    rw [show (x4.toInt + 1).toNat = x3.toInt.toNat by omega, k5, rPo_0]
    obtain ⟨k0, g5, gm, r5, rm, kk⟩ := f1
    refine ⟨?_, ⟨x6, ⟨b0, d0, _, _, s0, t0⟩, f2.symm⟩, ⟨x7, ⟨b0, d0, _, _, s1, t1⟩, f3.symm⟩, ⟨x8, ⟨b0, d0, _, _, s2, t2⟩, f4.symm⟩⟩
    obtain ⟨g5', g6, r5', r6, eq, ez⟩ := hY.1.2.2.2.2
    obtain rfl := rRo_u r5 r5'
    rw [eq]
    refine rZ_e rm (fun j hj => ?_) (fun j j0 j1 => ?_)
    · show (if 0 ≤ j ∧ j ≤ 63 then _ else (0 : Int)) = 0
      rw [if_neg hj]
    · show _ = (if 0 ≤ j ∧ j ≤ 63 then (g5 (64 * x1.toInt + j).toNat).toInt else 0)
      rw [if_pos ⟨j0, j1⟩]
      exact kk j j0 (by omega) j1)
  exact ⟨p, fun _ => rfl, ⟨(fun q h => by cases h), fun q h => (by cases h), (fun f h => by cases h), (aAllc ⟨_, rfl, (rF_b (r := 4005) (by decide) rfl).mpr q0⟩ (fun f h => by cases h))⟩, [], List.mem_cons_self, fun f h => (by cases h)⟩
theorem rw_rzPe {K : Nat → Nat} {n : Nat} {JX : (Nat → jcell) → Prop} : aGho (rG K n) fa_T K n JX ag_rzPe := by
  refine aGho_of ⟨rfl, rfl⟩ ?_
  intro p σ ρ hH hX hA hM0
  have hG := aAG_of hA.1 (fun i e v he hv => (hA.2 i e v he hv).1)
  clear hA
  obtain ⟨v0, v1, v2, v3, v4, rfl, g0, g1, g2, g3, g4⟩ := rA_5 hG
  clear hG
  obtain ⟨x0, rfl, b0, d0⟩ := rG_ref (by decide) g0
  obtain ⟨x1, rfl, b1, d1⟩ := aG_int g1
  dsimp only at b1 d1
  obtain ⟨x2, rfl, b2, d2⟩ := aG_int g2
  dsimp only at b2 d2
  obtain ⟨x3, rfl, b3, d3⟩ := aG_int g3
  dsimp only at b3 d3
  obtain ⟨x4, rfl, b4, d4⟩ := aG_int g4
  dsimp only at b4 d4
  obtain ⟨m1, m2, m3, m4⟩ := hM0
  obtain ⟨T, hT⟩ := rTe_ex hH b0 d0
  have f0 : rB2 K n p 246 [rR x0, rI x1, rI x2, rI x3, rI x4] σ := by
    obtain ⟨w, e6, e7⟩ := m4 (3941, [0, 1, 2, 3, 4]) (List.mem_of_getElem? (i := 0) rfl)
    obtain rfl : [rR x0, rI x1, rI x2, rI x3, rI x4] = w := Option.some.inj (show some [rR x0, rI x1, rI x2, rI x3, rI x4] = some w from e6)
    exact (rF_b (r := 3941) (by decide) rfl).mp e7
  have f0 := ro2_246.mp f0
  clear m1 m2 m3 m4
  have q0 : rB2 K n p 252 [rR x0, rI x1, rI x2, rI x3, rI x3] σ := ro2_252.mpr (by
    obtain ⟨C, y, hY, k1, k2, k3, k4, k5, k6, k7⟩ := f0
    exact ⟨C, y, hY, k1, k2, k3, k4, by rw [← k5]; omega⟩)
  exact ⟨p, fun _ => rfl, ⟨(fun q h => by cases h), fun q h => (by cases h), (fun f h => by cases h), (aAllc ⟨_, rfl, (rF_b (r := 4037) (by decide) rfl).mpr q0⟩ (fun f h => by cases h))⟩, [], List.mem_cons_self, fun f h => (by cases h)⟩
theorem rw_rzG {K : Nat → Nat} {n : Nat} {JX : (Nat → jcell) → Prop} : aGho (rG K n) fa_T K n JX ag_rzG := by
  refine aGho_of ⟨rfl, rfl⟩ ?_
  intro p σ ρ hH hX hA hM0
  have hG := aAG_of hA.1 (fun i e v he hv => (hA.2 i e v he hv).1)
  clear hA
  obtain ⟨v0, v1, v2, v3, v4, v5, v6, v7, v8, rfl, g0, g1, g2, g3, g4, g5, g6, g7, g8⟩ := rA_9 hG
  clear hG
  obtain ⟨x0, rfl, b0, d0⟩ := rG_ref (by decide) g0
  obtain ⟨x1, rfl, b1, d1⟩ := aG_int g1
  dsimp only at b1 d1
  obtain ⟨x2, rfl, b2, d2⟩ := aG_int g2
  dsimp only at b2 d2
  obtain ⟨x3, rfl, b3, d3⟩ := aG_int g3
  dsimp only at b3 d3
  obtain ⟨x4, rfl, b4, d4⟩ := aG_int g4
  dsimp only at b4 d4
  obtain ⟨x5, rfl, b5, d5⟩ := aG_int g5
  dsimp only at b5 d5
  obtain ⟨x6, rfl, b6, d6⟩ := aG_int g6
  dsimp only at b6 d6
  obtain ⟨x7, rfl, b7, d7⟩ := rG_ref (by decide) g7
  obtain ⟨x8, rfl, b8, d8⟩ := rG_ref (by decide) g8
  obtain ⟨m1, m2, m3, m4⟩ := hM0
  obtain ⟨T, hT⟩ := rTe_ex hH b0 d0
  obtain ⟨a0, c0, fs0, w0, e1, s0, t0, e4⟩ := m1 (0, 34, 7) (List.mem_of_getElem? (i := 0) rfl)
  obtain rfl : x0 = a0 := Sum.inl.inj (Option.some.inj (Sum.inr.inj (Sum.inr.inj (Option.some.inj (show some (rR x0) = some _ from e1)))))
  obtain rfl : rR x7 = w0 := Option.some.inj (show some (rR x7) = some w0 from e4)
  clear e1 e4
  obtain ⟨a1, c1, fs1, w1, e1, s1, t1, e4⟩ := m1 (0, 9, 8) (List.mem_of_getElem? (i := 1) rfl)
  obtain rfl : x0 = a1 := Sum.inl.inj (Option.some.inj (Sum.inr.inj (Sum.inr.inj (Option.some.inj (show some (rR x0) = some _ from e1)))))
  obtain rfl : rR x8 = w1 := Option.some.inj (show some (rR x8) = some w1 from e4)
  clear e1 e4
  obtain ⟨a, mc0, ty0, gc0, ic0, e1, sc0, jc0, e4, e5⟩ := m2 (7, ([(4, 1)], 0), 5) (List.mem_of_getElem? (i := 0) rfl)
  obtain rfl : x7 = a := Sum.inl.inj (Option.some.inj (Sum.inr.inj (Sum.inr.inj (Option.some.inj (show some (rR x7) = some _ from e1)))))
  obtain ⟨gc0, rfl⟩ : ∃ g, gc0 = .inl g := by
    rcases gc0 with g | g
    · exact ⟨g, rfl⟩
    · exact absurd (show some (rI x5) = some (.inr (.inl (g ic0))) from e5) (fun h => by cases h)
  have sc0 : σ x7 = .inl (ty0, mc0, .inl gc0) := sc0
  have ec0 : x5 = gc0 ic0 := Sum.inl.inj (Option.some.inj (show some (rI x5) = some _ from e5))
  have kc0 : (ic0 : Int) = (1 * x4.toInt + 0) + 0 := by
    obtain ⟨z, e6, e7⟩ := e4
    obtain rfl : (1 * x4.toInt + 0) = z := Option.some.inj (show some (1 * x4.toInt + 0) = some z from e6)
    exact e7
  clear e1 e4 e5
  obtain ⟨a, mc1, ty1, gc1, ic1, e1, sc1, jc1, e4, e5⟩ := m2 (8, ([(1, 301), (5, 1)], 0), 6) (List.mem_of_getElem? (i := 1) rfl)
  obtain rfl : x8 = a := Sum.inl.inj (Option.some.inj (Sum.inr.inj (Sum.inr.inj (Option.some.inj (show some (rR x8) = some _ from e1)))))
  obtain ⟨gc1, rfl⟩ : ∃ g, gc1 = .inl g := by
    rcases gc1 with g | g
    · exact ⟨g, rfl⟩
    · exact absurd (show some (rI x6) = some (.inr (.inl (g ic1))) from e5) (fun h => by cases h)
  have sc1 : σ x8 = .inl (ty1, mc1, .inl gc1) := sc1
  have ec1 : x6 = gc1 ic1 := Sum.inl.inj (Option.some.inj (show some (rI x6) = some _ from e5))
  have kc1 : (ic1 : Int) = (301 * x1.toInt + (1 * x5.toInt + 0)) + 0 := by
    obtain ⟨z, e6, e7⟩ := e4
    obtain rfl : (301 * x1.toInt + (1 * x5.toInt + 0)) = z := Option.some.inj (show some (301 * x1.toInt + (1 * x5.toInt + 0)) = some z from e6)
    exact e7
  clear e1 e4 e5
  have f0 : rB2 K n p 250 [rR x0, rI x1, rI x2, rI x3, rI x4] σ := by
    obtain ⟨w, e6, e7⟩ := m4 (4005, [0, 1, 2, 3, 4]) (List.mem_of_getElem? (i := 0) rfl)
    obtain rfl : [rR x0, rI x1, rI x2, rI x3, rI x4] = w := Option.some.inj (show some [rR x0, rI x1, rI x2, rI x3, rI x4] = some w from e6)
    exact (rF_b (r := 4005) (by decide) rfl).mp e7
  have f0 := ro2_250.mp f0
  clear m1 m2 m3 m4
  obtain ⟨C, y, hY, k1, k2, k3, ⟨g, r, k4⟩, k5, k6, k7, k8⟩ := f0
  have e4 := rRo_c (i := ic0) r s0 t0 sc0 ec0
  obtain ⟨k9, k10⟩ := k4 x4.toInt b4 (by omega)
  rw [show x4.toInt.toNat = ic0 by omega, e4] at k9
  rw [show x4.toInt.toNat = ic0 by omega] at k10
  have hub := rUa_b hY.2.2 k1 k2 (j := ic0) (fun i hi => by have := (k4 i (by omega) (by omega)).2; rwa [show ((i : Nat) : Int).toNat = i by omega] at this)
  rw [← k9] at k10 hub
  have y1 : y.2.1 x5.toInt = x6.toInt := rSc_c hY.1.2.1 s1 t1 sc1 ec1 (by omega)
  have hlg := hY.2.2.2.2.1 x5.toInt k10 hub.2
  rw [y1] at hlg
  have hup : y.1 x5.toInt = rUa y.1 (x4.toInt + 1).toNat x2.toInt := by
    rw [show (x4.toInt + 1).toNat = ic0 + 1 by omega, k9]
    rfl
  have hps := rPo_s hY.2.2 k10 hub.2
  rw [y1, hup] at hps
  rw [hup] at hlg
  have hm := hlg.1.1
  have r0 : 0 ≤ (1 * x6.toInt + 0) + 0 := by
    omega
  have r1 : 0 ≤ (1 * x5.toInt + 0) + -1 := by
    omega
  exact ⟨p, fun _ => rfl, ⟨(fun q h => by cases h), fun q h => (by cases h), (aAllc ⟨_, rfl, r0⟩ (aAllc ⟨_, rfl, r1⟩ (fun f h => by cases h))), (fun f h => by cases h)⟩, [], List.mem_cons_self, fun f h => (by cases h)⟩
theorem rw_rzT1 {K : Nat → Nat} {n : Nat} {JX : (Nat → jcell) → Prop} : aGho (rG K n) fa_T K n JX ag_rzT1 := by
  refine aGho_of ⟨rfl, rfl⟩ ?_
  intro p σ ρ hH hX hA hM0
  have hG := aAG_of hA.1 (fun i e v he hv => (hA.2 i e v he hv).1)
  clear hA
  obtain ⟨v0, v1, v2, v3, v4, v5, v6, v7, v8, rfl, g0, g1, g2, g3, g4, g5, g6, g7, g8⟩ := rA_9 hG
  clear hG
  obtain ⟨x0, rfl, b0, d0⟩ := rG_ref (by decide) g0
  obtain ⟨x1, rfl, b1, d1⟩ := aG_int g1
  dsimp only at b1 d1
  obtain ⟨x2, rfl, b2, d2⟩ := aG_int g2
  dsimp only at b2 d2
  obtain ⟨x3, rfl, b3, d3⟩ := aG_int g3
  dsimp only at b3 d3
  obtain ⟨x4, rfl, b4, d4⟩ := aG_int g4
  dsimp only at b4 d4
  obtain ⟨x5, rfl, b5, d5⟩ := aG_int g5
  dsimp only at b5 d5
  obtain ⟨x6, rfl, b6, d6⟩ := aG_int g6
  dsimp only at b6 d6
  obtain ⟨x7, rfl, b7, d7⟩ := rG_ref (by decide) g7
  obtain ⟨x8, rfl, b8, d8⟩ := rG_ref (by decide) g8
  obtain ⟨m1, m2, m3, m4⟩ := hM0
  obtain ⟨T, hT⟩ := rTe_ex hH b0 d0
  obtain ⟨a0, c0, fs0, w0, e1, s0, t0, e4⟩ := m1 (0, 34, 7) (List.mem_of_getElem? (i := 0) rfl)
  obtain rfl : x0 = a0 := Sum.inl.inj (Option.some.inj (Sum.inr.inj (Sum.inr.inj (Option.some.inj (show some (rR x0) = some _ from e1)))))
  obtain rfl : rR x7 = w0 := Option.some.inj (show some (rR x7) = some w0 from e4)
  clear e1 e4
  obtain ⟨a1, c1, fs1, w1, e1, s1, t1, e4⟩ := m1 (0, 9, 8) (List.mem_of_getElem? (i := 1) rfl)
  obtain rfl : x0 = a1 := Sum.inl.inj (Option.some.inj (Sum.inr.inj (Sum.inr.inj (Option.some.inj (show some (rR x0) = some _ from e1)))))
  obtain rfl : rR x8 = w1 := Option.some.inj (show some (rR x8) = some w1 from e4)
  clear e1 e4
  obtain ⟨a, mc0, ty0, gc0, ic0, e1, sc0, jc0, e4, e5⟩ := m2 (7, ([(4, 1)], 0), 5) (List.mem_of_getElem? (i := 0) rfl)
  obtain rfl : x7 = a := Sum.inl.inj (Option.some.inj (Sum.inr.inj (Sum.inr.inj (Option.some.inj (show some (rR x7) = some _ from e1)))))
  obtain ⟨gc0, rfl⟩ : ∃ g, gc0 = .inl g := by
    rcases gc0 with g | g
    · exact ⟨g, rfl⟩
    · exact absurd (show some (rI x5) = some (.inr (.inl (g ic0))) from e5) (fun h => by cases h)
  have sc0 : σ x7 = .inl (ty0, mc0, .inl gc0) := sc0
  have ec0 : x5 = gc0 ic0 := Sum.inl.inj (Option.some.inj (show some (rI x5) = some _ from e5))
  have kc0 : (ic0 : Int) = (1 * x4.toInt + 0) + 0 := by
    obtain ⟨z, e6, e7⟩ := e4
    obtain rfl : (1 * x4.toInt + 0) = z := Option.some.inj (show some (1 * x4.toInt + 0) = some z from e6)
    exact e7
  clear e1 e4 e5
  obtain ⟨a, mc1, ty1, gc1, ic1, e1, sc1, jc1, e4, e5⟩ := m2 (8, ([(1, 301), (5, 1)], 0), 6) (List.mem_of_getElem? (i := 1) rfl)
  obtain rfl : x8 = a := Sum.inl.inj (Option.some.inj (Sum.inr.inj (Sum.inr.inj (Option.some.inj (show some (rR x8) = some _ from e1)))))
  obtain ⟨gc1, rfl⟩ : ∃ g, gc1 = .inl g := by
    rcases gc1 with g | g
    · exact ⟨g, rfl⟩
    · exact absurd (show some (rI x6) = some (.inr (.inl (g ic1))) from e5) (fun h => by cases h)
  have sc1 : σ x8 = .inl (ty1, mc1, .inl gc1) := sc1
  have ec1 : x6 = gc1 ic1 := Sum.inl.inj (Option.some.inj (show some (rI x6) = some _ from e5))
  have kc1 : (ic1 : Int) = (301 * x1.toInt + (1 * x5.toInt + 0)) + 0 := by
    obtain ⟨z, e6, e7⟩ := e4
    obtain rfl : (301 * x1.toInt + (1 * x5.toInt + 0)) = z := Option.some.inj (show some (301 * x1.toInt + (1 * x5.toInt + 0)) = some z from e6)
    exact e7
  clear e1 e4 e5
  have f0 : rB2 K n p 250 [rR x0, rI x1, rI x2, rI x3, rI x4] σ := by
    obtain ⟨w, e6, e7⟩ := m4 (4005, [0, 1, 2, 3, 4]) (List.mem_of_getElem? (i := 0) rfl)
    obtain rfl : [rR x0, rI x1, rI x2, rI x3, rI x4] = w := Option.some.inj (show some [rR x0, rI x1, rI x2, rI x3, rI x4] = some w from e6)
    exact (rF_b (r := 4005) (by decide) rfl).mp e7
  have f0 := ro2_250.mp f0
  clear m1 m2 m3 m4
  obtain ⟨C, y, hY, k1, k2, k3, ⟨g, r, k4⟩, k5, k6, k7, k8⟩ := f0
  have e4 := rRo_c (i := ic0) r s0 t0 sc0 ec0
  obtain ⟨k9, k10⟩ := k4 x4.toInt b4 (by omega)
  rw [show x4.toInt.toNat = ic0 by omega, e4] at k9
  rw [show x4.toInt.toNat = ic0 by omega] at k10
  have hub := rUa_b hY.2.2 k1 k2 (j := ic0) (fun i hi => by have := (k4 i (by omega) (by omega)).2; rwa [show ((i : Nat) : Int).toNat = i by omega] at this)
  rw [← k9] at k10 hub
  have y1 : y.2.1 x5.toInt = x6.toInt := rSc_c hY.1.2.1 s1 t1 sc1 ec1 (by omega)
  have hlg := hY.2.2.2.2.1 x5.toInt k10 hub.2
  rw [y1] at hlg
  have hup : y.1 x5.toInt = rUa y.1 (x4.toInt + 1).toNat x2.toInt := by
    rw [show (x4.toInt + 1).toNat = ic0 + 1 by omega, k9]
    rfl
  have hps := rPo_s hY.2.2 k10 hub.2
  rw [y1, hup] at hps
  rw [hup] at hlg
  have q0 : rB2 K n ((rPo y (rUa y.1 (x4.toInt + 1).toNat x2.toInt), none) : rP) 400 [rR x0] σ := ro2_400.mpr (by
    exact ⟨rfl, k8⟩)
  have q1 : rB2 K n ((rPo y (rUa y.1 (x4.toInt + 1).toNat x2.toInt), none) : rP) 24 [] σ := ro2_24.mpr (by
    exact rPo_g hY.2.2 (by rw [← hup]; exact (hY.2.2.2.1 _ k10 hub.2).1) (by have := hY.2.2.2.1 _ k10 hub.2; rw [← hup]; omega))
  have q2 : rB2 K n ((rPo y (rUa y.1 (x4.toInt + 1).toNat x2.toInt), none) : rP) 25 [rI x6] σ := ro2_25.mpr (by
    exact hlg.1)
  have q3 : rB2 K n (rSh rS1 ((rPo y (rUa y.1 (x4.toInt + 1).toNat x2.toInt), none) : rP) [rR x0, rI x6]) 24 [] σ := ro2_24.mpr (by
    rw [rSh_mk rfl]
    show rGd (rMk (rPo y (rUa y.1 (x4.toInt + 1).toNat x2.toInt)) x6.toInt)
    rw [← hps]
    exact hlg.2)
  have q4 : rB2 K n ((rPo y (rUa y.1 (x4.toInt + 1).toNat x2.toInt), none) : rP) 449 [rR x0, rI x1, rI x2, rI x3, rI x4] σ := ro2_449_5.mpr (by
    exact ⟨rfl, C, y, hY, k1, k2, k3, ⟨g, r, k4⟩, k5, b4, k7, rfl⟩)
  exact ⟨((rPo y (rUa y.1 (x4.toInt + 1).toNat x2.toInt), none) : rP), fun h => (by cases h), ⟨(fun q h => by cases h), fun q h => (by cases h), (fun f h => by cases h), (aAllc ⟨_, rfl, (rF_b (r := 6401) (by decide) rfl).mpr q0⟩ (aAllc ⟨_, rfl, (rF_b (r := 384) (by decide) rfl).mpr q1⟩ (aAllc ⟨_, rfl, (rF_b (r := 401) (by decide) rfl).mpr q2⟩ (aAllc ⟨_, rfl, (rF_g (r := 384) (by decide)).mpr q3⟩ (aAllc ⟨_, rfl, (rF_b (r := 7189) (by decide) rfl).mpr q4⟩ (fun f h => by cases h))))))⟩, [], List.mem_cons_self, fun f h => (by cases h)⟩
theorem rw_rzT2 {K : Nat → Nat} {n : Nat} {JX : (Nat → jcell) → Prop} : aGho (rG K n) fa_T K n JX ag_rzT2 := by
  refine aGho_of ⟨rfl, rfl⟩ ?_
  intro p σ ρ hH hX hA hM0
  have hG := aAG_of hA.1 (fun i e v he hv => (hA.2 i e v he hv).1)
  clear hA
  obtain ⟨v0, v1, v2, v3, v4, v5, v6, v7, v8, rfl, g0, g1, g2, g3, g4, g5, g6, g7, g8⟩ := rA_9 hG
  clear hG
  obtain ⟨x0, rfl, b0, d0⟩ := rG_ref (by decide) g0
  obtain ⟨x1, rfl, b1, d1⟩ := aG_int g1
  dsimp only at b1 d1
  obtain ⟨x2, rfl, b2, d2⟩ := aG_int g2
  dsimp only at b2 d2
  obtain ⟨x3, rfl, b3, d3⟩ := aG_int g3
  dsimp only at b3 d3
  obtain ⟨x4, rfl, b4, d4⟩ := aG_int g4
  dsimp only at b4 d4
  obtain ⟨x5, rfl, b5, d5⟩ := aG_int g5
  dsimp only at b5 d5
  obtain ⟨x6, rfl, b6, d6⟩ := aG_int g6
  dsimp only at b6 d6
  obtain ⟨x7, rfl, b7, d7⟩ := rG_ref (by decide) g7
  obtain ⟨x8, rfl, b8, d8⟩ := rG_ref (by decide) g8
  obtain ⟨m1, m2, m3, m4⟩ := hM0
  obtain ⟨T, hT⟩ := rTe_ex hH b0 d0
  obtain ⟨a0, c0, fs0, w0, e1, s0, t0, e4⟩ := m1 (0, 34, 7) (List.mem_of_getElem? (i := 0) rfl)
  obtain rfl : x0 = a0 := Sum.inl.inj (Option.some.inj (Sum.inr.inj (Sum.inr.inj (Option.some.inj (show some (rR x0) = some _ from e1)))))
  obtain rfl : rR x7 = w0 := Option.some.inj (show some (rR x7) = some w0 from e4)
  clear e1 e4
  obtain ⟨a1, c1, fs1, w1, e1, s1, t1, e4⟩ := m1 (0, 9, 8) (List.mem_of_getElem? (i := 1) rfl)
  obtain rfl : x0 = a1 := Sum.inl.inj (Option.some.inj (Sum.inr.inj (Sum.inr.inj (Option.some.inj (show some (rR x0) = some _ from e1)))))
  obtain rfl : rR x8 = w1 := Option.some.inj (show some (rR x8) = some w1 from e4)
  clear e1 e4
  obtain ⟨a, mc0, ty0, gc0, ic0, e1, sc0, jc0, e4, e5⟩ := m2 (7, ([(4, 1)], 0), 5) (List.mem_of_getElem? (i := 0) rfl)
  obtain rfl : x7 = a := Sum.inl.inj (Option.some.inj (Sum.inr.inj (Sum.inr.inj (Option.some.inj (show some (rR x7) = some _ from e1)))))
  obtain ⟨gc0, rfl⟩ : ∃ g, gc0 = .inl g := by
    rcases gc0 with g | g
    · exact ⟨g, rfl⟩
    · exact absurd (show some (rI x5) = some (.inr (.inl (g ic0))) from e5) (fun h => by cases h)
  have sc0 : σ x7 = .inl (ty0, mc0, .inl gc0) := sc0
  have ec0 : x5 = gc0 ic0 := Sum.inl.inj (Option.some.inj (show some (rI x5) = some _ from e5))
  have kc0 : (ic0 : Int) = (1 * x4.toInt + 0) + 0 := by
    obtain ⟨z, e6, e7⟩ := e4
    obtain rfl : (1 * x4.toInt + 0) = z := Option.some.inj (show some (1 * x4.toInt + 0) = some z from e6)
    exact e7
  clear e1 e4 e5
  obtain ⟨a, mc1, ty1, gc1, ic1, e1, sc1, jc1, e4, e5⟩ := m2 (8, ([(1, 301), (5, 1)], 0), 6) (List.mem_of_getElem? (i := 1) rfl)
  obtain rfl : x8 = a := Sum.inl.inj (Option.some.inj (Sum.inr.inj (Sum.inr.inj (Option.some.inj (show some (rR x8) = some _ from e1)))))
  obtain ⟨gc1, rfl⟩ : ∃ g, gc1 = .inl g := by
    rcases gc1 with g | g
    · exact ⟨g, rfl⟩
    · exact absurd (show some (rI x6) = some (.inr (.inl (g ic1))) from e5) (fun h => by cases h)
  have sc1 : σ x8 = .inl (ty1, mc1, .inl gc1) := sc1
  have ec1 : x6 = gc1 ic1 := Sum.inl.inj (Option.some.inj (show some (rI x6) = some _ from e5))
  have kc1 : (ic1 : Int) = (301 * x1.toInt + (1 * x5.toInt + 0)) + 0 := by
    obtain ⟨z, e6, e7⟩ := e4
    obtain rfl : (301 * x1.toInt + (1 * x5.toInt + 0)) = z := Option.some.inj (show some (301 * x1.toInt + (1 * x5.toInt + 0)) = some z from e6)
    exact e7
  clear e1 e4 e5
  have f0 : rB2 K n p 411 [rR x0, rI x6] σ := by
    obtain ⟨w, e6, e7⟩ := m4 (6578, [0, 6]) (List.mem_of_getElem? (i := 0) rfl)
    obtain rfl : [rR x0, rI x6] = w := Option.some.inj (show some [rR x0, rI x6] = some w from e6)
    exact (rF_b (r := 6578) (by decide) rfl).mp e7
  have f0 := ro2_411.mp f0
  have f1 : rB2 K n p 449 [rR x0, rI x1, rI x2, rI x3, rI x4] σ := by
    obtain ⟨w, e6, e7⟩ := m4 (7189, [0, 1, 2, 3, 4]) (List.mem_of_getElem? (i := 1) rfl)
    obtain rfl : [rR x0, rI x1, rI x2, rI x3, rI x4] = w := Option.some.inj (show some [rR x0, rI x1, rI x2, rI x3, rI x4] = some w from e6)
    exact (rF_b (r := 7189) (by decide) rfl).mp e7
  have f1 := ro2_449_5.mp f1
  have f2 : rB2 K n p 24 [] σ := by
    obtain ⟨w, e6, e7⟩ := m4 (384, []) (List.mem_of_getElem? (i := 2) rfl)
    obtain rfl : [] = w := Option.some.inj (show some [] = some w from e6)
    exact (rF_b (r := 384) (by decide) rfl).mp e7
  have f2 := ro2_24.mp f2
  have f3 : rB2 K n p 25 [rI x6] σ := by
    obtain ⟨w, e6, e7⟩ := m4 (401, [6]) (List.mem_of_getElem? (i := 3) rfl)
    obtain rfl : [rI x6] = w := Option.some.inj (show some [rI x6] = some w from e6)
    exact (rF_b (r := 401) (by decide) rfl).mp e7
  have f3 := ro2_25.mp f3
  clear m1 m2 m3 m4
  obtain ⟨hp, C, y, hY, k1, k2, k3, ⟨g, r, k4⟩, k5, k6, k7, k8⟩ := f1
  have e4 := rRo_c (i := ic0) r s0 t0 sc0 ec0
  obtain ⟨k9, k10⟩ := k4 x4.toInt b4 (by omega)
  rw [show x4.toInt.toNat = ic0 by omega, e4] at k9
  rw [show x4.toInt.toNat = ic0 by omega] at k10
  have hub := rUa_b hY.2.2 k1 k2 (j := ic0) (fun i hi => by have := (k4 i (by omega) (by omega)).2; rwa [show ((i : Nat) : Int).toNat = i by omega] at this)
  rw [← k9] at k10 hub
  have y1 : y.2.1 x5.toInt = x6.toInt := rSc_c hY.1.2.1 s1 t1 sc1 ec1 (by omega)
  have hlg := hY.2.2.2.2.1 x5.toInt k10 hub.2
  rw [y1] at hlg
  have hup : y.1 x5.toInt = rUa y.1 (x4.toInt + 1).toNat x2.toInt := by
    rw [show (x4.toInt + 1).toNat = ic0 + 1 by omega, k9]
    rfl
  have hps := rPo_s hY.2.2 k10 hub.2
  rw [y1, hup] at hps
  rw [hup] at hlg
  have q0 : rB2 K n p 251 [rR x0, rI x1, rI x2, rI x3, rI x4] σ := ro2_251.mpr (by
    refine ⟨C, y, hY, k1, k2, k3, ⟨g, r, k4⟩, k5, k6, k7, ?_⟩
    have e9 : rVk p.1 x6.toInt = rPo y (rUa y.1 x4.toInt.toNat x2.toInt) := by
      rw [rVk_eq f2 f3, k8, ← hps, show x4.toInt.toNat = ic0 by omega, ← k9]
    rw [← e9]
    exact f0.2)
  exact ⟨p, fun _ => rfl, ⟨(fun q h => by cases h), fun q h => (by cases h), (fun f h => by cases h), (aAllc ⟨_, rfl, (rF_b (r := 4021) (by decide) rfl).mpr q0⟩ (fun f h => by cases h))⟩, [], List.mem_cons_self, fun f h => (by cases h)⟩
theorem rw_rzT3 {K : Nat → Nat} {n : Nat} {JX : (Nat → jcell) → Prop} : aGho (rG K n) fa_T K n JX ag_rzT3 := by
  refine aGho_of ⟨rfl, rfl⟩ ?_
  intro p σ ρ hH hX hA hM0
  have hG := aAG_of hA.1 (fun i e v he hv => (hA.2 i e v he hv).1)
  clear hA
  obtain ⟨v0, v1, v2, v3, v4, v5, rfl, g0, g1, g2, g3, g4, g5⟩ := rA_6 hG
  clear hG
  obtain ⟨x0, rfl, b0, d0⟩ := rG_ref (by decide) g0
  obtain ⟨x1, rfl, b1, d1⟩ := aG_int g1
  dsimp only at b1 d1
  obtain ⟨x2, rfl, b2, d2⟩ := aG_int g2
  dsimp only at b2 d2
  obtain ⟨x3, rfl, b3, d3⟩ := aG_int g3
  dsimp only at b3 d3
  obtain ⟨x4, rfl, b4, d4⟩ := aG_int g4
  dsimp only at b4 d4
  obtain ⟨x5, rfl, b5, d5⟩ := aG_int g5
  dsimp only at b5 d5
  obtain ⟨m1, m2, m3, m4⟩ := hM0
  obtain ⟨T, hT⟩ := rTe_ex hH b0 d0
  have l0 : 0 ≤ (1 * x5.toInt + (-1 * x4.toInt + 0)) + 1 := by
    obtain ⟨z, e6, e7⟩ := m3 ([(5, 1), (4, -1)], 1) (List.mem_of_getElem? (i := 0) rfl)
    obtain rfl : (1 * x5.toInt + (-1 * x4.toInt + 0)) = z := Option.some.inj (show some (1 * x5.toInt + (-1 * x4.toInt + 0)) = some z from e6)
    exact e7
  have l1 : 0 ≤ (-1 * x5.toInt + (1 * x4.toInt + 0)) + -1 := by
    obtain ⟨z, e6, e7⟩ := m3 ([(5, -1), (4, 1)], -1) (List.mem_of_getElem? (i := 1) rfl)
    obtain rfl : (-1 * x5.toInt + (1 * x4.toInt + 0)) = z := Option.some.inj (show some (-1 * x5.toInt + (1 * x4.toInt + 0)) = some z from e6)
    exact e7
  have f0 : rB2 K n p 251 [rR x0, rI x1, rI x2, rI x3, rI x4] σ := by
    obtain ⟨w, e6, e7⟩ := m4 (4021, [0, 1, 2, 3, 4]) (List.mem_of_getElem? (i := 0) rfl)
    obtain rfl : [rR x0, rI x1, rI x2, rI x3, rI x4] = w := Option.some.inj (show some [rR x0, rI x1, rI x2, rI x3, rI x4] = some w from e6)
    exact (rF_b (r := 4021) (by decide) rfl).mp e7
  have f0 := ro2_251.mp f0
  clear m1 m2 m3 m4
  have q0 : rB2 K n p 250 [rR x0, rI x1, rI x2, rI x3, rI x5] σ := ro2_250.mpr (by
    obtain ⟨C, y, hY, k1, k2, k3, k4, k5, k6, k7, k8⟩ := f0
    exact ⟨C, y, hY, k1, k2, k3, k4, k5, by omega, by omega, by rw [show (x5.toInt + 1).toNat = x4.toInt.toNat by omega]; exact k8⟩)
  exact ⟨p, fun _ => rfl, ⟨(fun q h => by cases h), fun q h => (by cases h), (fun f h => by cases h), (aAllc ⟨_, rfl, (rF_b (r := 4005) (by decide) rfl).mpr q0⟩ (fun f h => by cases h))⟩, [], List.mem_cons_self, fun f h => (by cases h)⟩
theorem rw_rzE {K : Nat → Nat} {n : Nat} {JX : (Nat → jcell) → Prop} : aGho (rG K n) fa_T K n JX ag_rzE := by
  refine aGho_of ⟨rfl, rfl⟩ ?_
  intro p σ ρ hH hX hA hM0
  have hG := aAG_of hA.1 (fun i e v he hv => (hA.2 i e v he hv).1)
  clear hA
  obtain ⟨v0, v1, v2, v3, v4, rfl, g0, g1, g2, g3, g4⟩ := rA_5 hG
  clear hG
  obtain ⟨x0, rfl, b0, d0⟩ := rG_ref (by decide) g0
  obtain ⟨x1, rfl, b1, d1⟩ := aG_int g1
  dsimp only at b1 d1
  obtain ⟨x2, rfl, b2, d2⟩ := aG_int g2
  dsimp only at b2 d2
  obtain ⟨x3, rfl, b3, d3⟩ := aG_int g3
  dsimp only at b3 d3
  obtain ⟨x4, rfl, b4, d4⟩ := aG_int g4
  dsimp only at b4 d4
  obtain ⟨m1, m2, m3, m4⟩ := hM0
  obtain ⟨T, hT⟩ := rTe_ex hH b0 d0
  have f0 : rB2 K n p 250 [rR x0, rI x1, rI x2, rI x3, rI x4] σ := by
    obtain ⟨w, e6, e7⟩ := m4 (4005, [0, 1, 2, 3, 4]) (List.mem_of_getElem? (i := 0) rfl)
    obtain rfl : [rR x0, rI x1, rI x2, rI x3, rI x4] = w := Option.some.inj (show some [rR x0, rI x1, rI x2, rI x3, rI x4] = some w from e6)
    exact (rF_b (r := 4005) (by decide) rfl).mp e7
  have f0 := ro2_250.mp f0
  clear m1 m2 m3 m4
  obtain ⟨C, y, hY, k1, k2, k3, k4, k5, k6, k7, k8⟩ := f0
  rw [show (x4.toInt + 1).toNat = 0 by omega] at k8
  have q0 : rB2 K n ((rPo y x2.toInt, none) : rP) 400 [rR x0] σ := ro2_400.mpr (by
    exact ⟨rfl, k8⟩)
  have q1 : rB2 K n ((rPo y x2.toInt, none) : rP) 24 [] σ := ro2_24.mpr (by
    exact rPo_g hY.2.2 k1 k2)
  have q2 : rB2 K n ((rPo y x2.toInt, none) : rP) 449 [rR x0, rI x1, rI x2] σ := ro2_449_3.mpr (by
    exact ⟨rfl, C, y, hY, k1, k2, rfl⟩)
  exact ⟨((rPo y x2.toInt, none) : rP), fun h => (by cases h), ⟨(fun q h => by cases h), fun q h => (by cases h), (fun f h => by cases h), (aAllc ⟨_, rfl, (rF_b (r := 6401) (by decide) rfl).mpr q0⟩ (aAllc ⟨_, rfl, (rF_b (r := 384) (by decide) rfl).mpr q1⟩ (aAllc ⟨_, rfl, (rF_b (r := 7187) (by decide) rfl).mpr q2⟩ (fun f h => by cases h))))⟩, [], List.mem_cons_self, fun f h => (by cases h)⟩
theorem rw_rzN {K : Nat → Nat} {n : Nat} {JX : (Nat → jcell) → Prop} : aGho (rG K n) fa_T K n JX ag_rzN := by
  refine aGho_of ⟨rfl, rfl⟩ ?_
  intro p σ ρ hH hX hA hM0
  have hG := aAG_of hA.1 (fun i e v he hv => (hA.2 i e v he hv).1)
  clear hA
  obtain ⟨v0, v1, rfl, g0, g1⟩ := rA_2 hG
  clear hG
  obtain ⟨x0, rfl, b0, d0⟩ := rG_ref (by decide) g0
  obtain ⟨x1, rfl, b1, d1⟩ := aG_int g1
  dsimp only at b1 d1
  obtain ⟨m1, m2, m3, m4⟩ := hM0
  obtain ⟨T, hT⟩ := rTe_ex hH b0 d0
  obtain ⟨a0, c0, fs0, w0, e1, s0, t0, e4⟩ := m1 (0, 29, 1) (List.mem_of_getElem? (i := 0) rfl)
  obtain rfl : x0 = a0 := Sum.inl.inj (Option.some.inj (Sum.inr.inj (Sum.inr.inj (Option.some.inj (show some (rR x0) = some _ from e1)))))
  obtain rfl : rI x1 = w0 := Option.some.inj (show some (rI x1) = some w0 from e4)
  clear e1 e4
  have l0 : 0 ≤ (-2 * x1.toInt + 0) + 2597 := by
    obtain ⟨z, e6, e7⟩ := m3 ([(1, -2)], 2597) (List.mem_of_getElem? (i := 0) rfl)
    obtain rfl : (-2 * x1.toInt + 0) = z := Option.some.inj (show some (-2 * x1.toInt + 0) = some z from e6)
    exact e7
  have l1 : 0 ≤ (1 * x1.toInt + 0) + 0 := by
    obtain ⟨z, e6, e7⟩ := m3 ([(1, 1)], 0) (List.mem_of_getElem? (i := 1) rfl)
    obtain rfl : (1 * x1.toInt + 0) = z := Option.some.inj (show some (1 * x1.toInt + 0) = some z from e6)
    exact e7
  clear m1 m2 m3 m4
  have q0 : rB2 K n p 220 [rR x0] σ := ro2_220.mpr (by
    exact ⟨x1, ⟨b0, d0, _, _, s0, t0⟩, by omega, by omega⟩)
  exact ⟨p, fun _ => rfl, ⟨(fun q h => by cases h), fun q h => (by cases h), (fun f h => by cases h), (aAllc ⟨_, rfl, (rF_b (r := 3521) (by decide) rfl).mpr q0⟩ (fun f h => by cases h))⟩, [], List.mem_cons_self, fun f h => (by cases h)⟩
theorem rw_rzNp {K : Nat → Nat} {n : Nat} {JX : (Nat → jcell) → Prop} : aGho (rG K n) fa_T K n JX ag_rzNp := by
  refine aGho_of ⟨rfl, rfl⟩ ?_
  intro p σ ρ hH hX hA hM0
  have hG := aAG_of hA.1 (fun i e v he hv => (hA.2 i e v he hv).1)
  clear hA
  obtain ⟨v0, v1, rfl, g0, g1⟩ := rA_2 hG
  clear hG
  obtain ⟨x0, rfl, b0, d0⟩ := rG_ref (by decide) g0
  obtain ⟨x1, rfl, b1, d1⟩ := aG_int g1
  dsimp only at b1 d1
  obtain ⟨m1, m2, m3, m4⟩ := hM0
  obtain ⟨T, hT⟩ := rTe_ex hH b0 d0
  obtain ⟨a0, c0, fs0, w0, e1, s0, t0, e4⟩ := m1 (0, 29, 1) (List.mem_of_getElem? (i := 0) rfl)
  obtain rfl : x0 = a0 := Sum.inl.inj (Option.some.inj (Sum.inr.inj (Sum.inr.inj (Option.some.inj (show some (rR x0) = some _ from e1)))))
  obtain rfl : rI x1 = w0 := Option.some.inj (show some (rI x1) = some w0 from e4)
  clear e1 e4
  have l0 : 0 ≤ (-2 * x1.toInt + 0) + 2597 := by
    obtain ⟨z, e6, e7⟩ := m3 ([(1, -2)], 2597) (List.mem_of_getElem? (i := 0) rfl)
    obtain rfl : (-2 * x1.toInt + 0) = z := Option.some.inj (show some (-2 * x1.toInt + 0) = some z from e6)
    exact e7
  clear m1 m2 m3 m4
  have r0 : 0 ≤ (-1 * x1.toInt + 0) + 1298 := by
    omega
  exact ⟨p, fun _ => rfl, ⟨(fun q h => by cases h), fun q h => (by cases h), (aAllc ⟨_, rfl, r0⟩ (fun f h => by cases h)), (fun f h => by cases h)⟩, [], List.mem_cons_self, fun f h => (by cases h)⟩
theorem rw_rzSL {K : Nat → Nat} {n : Nat} {JX : (Nat → jcell) → Prop} : aGho (rG K n) fa_T K n JX ag_rzSL := by
  refine aGho_of ⟨rfl, rfl⟩ ?_
  intro p σ ρ hH hX hA hM0
  have hG := aAG_of hA.1 (fun i e v he hv => (hA.2 i e v he hv).1)
  clear hA
  obtain ⟨v0, v1, v2, v3, rfl, g0, g1, g2, g3⟩ := rA_4 hG
  clear hG
  obtain ⟨x0, rfl, b0, d0⟩ := rG_ref (by decide) g0
  obtain ⟨x1, rfl, b1, d1⟩ := aG_int g1
  dsimp only at b1 d1
  obtain ⟨x2, rfl, b2, d2⟩ := aG_int g2
  dsimp only at b2 d2
  obtain ⟨x3, rfl, b3, d3⟩ := aG_int g3
  dsimp only at b3 d3
  obtain ⟨m1, m2, m3, m4⟩ := hM0
  obtain ⟨T, hT⟩ := rTe_ex hH b0 d0
  obtain ⟨a0, c0, fs0, w0, e1, s0, t0, e4⟩ := m1 (0, 33, 3) (List.mem_of_getElem? (i := 0) rfl)
  obtain rfl : x0 = a0 := Sum.inl.inj (Option.some.inj (Sum.inr.inj (Sum.inr.inj (Option.some.inj (show some (rR x0) = some _ from e1)))))
  obtain rfl : rI x3 = w0 := Option.some.inj (show some (rI x3) = some w0 from e4)
  clear e1 e4
  have f0 : rB2 K n p 400 [rR x0] σ := by
    obtain ⟨w, e6, e7⟩ := m4 (6401, [0]) (List.mem_of_getElem? (i := 0) rfl)
    obtain rfl : [rR x0] = w := Option.some.inj (show some [rR x0] = some w from e6)
    exact (rF_b (r := 6401) (by decide) rfl).mp e7
  obtain ⟨hp, hR⟩ := ro2_400.mp f0
  obtain rfl := rMg_u hT hR.1
  have f1 : rB2 K n p 438 [rR x0, rI x3] σ := by
    obtain ⟨w, e6, e7⟩ := m4 (7010, [0, 3]) (List.mem_of_getElem? (i := 1) rfl)
    obtain rfl : [rR x0, rI x3] = w := Option.some.inj (show some [rR x0, rI x3] = some w from e6)
    exact (rF_b (r := 7010) (by decide) rfl).mp e7
  have f1 := ro2_438.mp f1
  have f2 : rB2 K n p 449 [rR x0, rI x1, rI x2] σ := by
    obtain ⟨w, e6, e7⟩ := m4 (7187, [0, 1, 2]) (List.mem_of_getElem? (i := 2) rfl)
    obtain rfl : [rR x0, rI x1, rI x2] = w := Option.some.inj (show some [rR x0, rI x1, rI x2] = some w from e6)
    exact (rF_b (r := 7187) (by decide) rfl).mp e7
  have f2 := ro2_449_3.mp f2
  have f3 : rB2 K n p 220 [rR x0] σ := by
    obtain ⟨w, e6, e7⟩ := m4 (3521, [0]) (List.mem_of_getElem? (i := 3) rfl)
    obtain rfl : [rR x0] = w := Option.some.inj (show some [rR x0] = some w from e6)
    exact (rF_b (r := 3521) (by decide) rfl).mp e7
  have f3 := ro2_220.mp f3
  clear m1 m2 m3 m4
  have q0 : rB2 K n p 245 [rR x0, rI x1, rI x2] σ := ro2_245.mpr (by
    obtain ⟨hp9, C, y, hY, k1, k2, k3⟩ := f2
    obtain ⟨v, ov, v0, v1⟩ := f3
    obtain ⟨g5, g6, r5, r6, eq, ez⟩ := hY.1.2.2.2.2
    have hg := rPo_g hY.2.2 k1 k2
    refine ⟨y.1, y.2.1, y.2.2.2.2.1, y.2.2.2.2.2, x3, v, hY.1.1, hY.1.2.1, hY.1.2.2.2.2, ?_, hg, ⟨⟨b0, d0, _, _, s0, t0⟩, f1.1, ?_⟩, ov, v0, v1⟩
    · rw [show rPo3 y.1 y.2.1 y.2.2.2.2.1 x2.toInt = p.1 from k3.symm]
      exact hR
    · rw [show rPo3 y.1 y.2.1 y.2.2.2.2.1 x2.toInt = p.1 from k3.symm]
      exact f1.2)
  exact ⟨p, fun _ => rfl, ⟨(fun q h => by cases h), fun q h => (by cases h), (fun f h => by cases h), (aAllc ⟨_, rfl, (rF_b (r := 3923) (by decide) rfl).mpr q0⟩ (fun f h => by cases h))⟩, [], List.mem_cons_self, fun f h => (by cases h)⟩
theorem rw_raC {K : Nat → Nat} {n : Nat} {JX : (Nat → jcell) → Prop} : aGho (rG K n) fa_T K n JX ag_raC := by
  refine aGho_of ⟨rfl, rfl⟩ ?_
  intro p σ ρ hH hX hA hM0
  have hG := aAG_of hA.1 (fun i e v he hv => (hA.2 i e v he hv).1)
  clear hA
  obtain ⟨v0, v1, v2, v3, rfl, g0, g1, g2, g3⟩ := rA_4 hG
  clear hG
  obtain ⟨x0, rfl, b0, d0⟩ := rG_ref (by decide) g0
  obtain ⟨x1, rfl, b1, d1⟩ := rG_ref (by decide) g1
  obtain ⟨x2, rfl, b2, d2⟩ := aG_int g2
  dsimp only at b2 d2
  obtain ⟨x3, rfl, b3, d3⟩ := aG_int g3
  dsimp only at b3 d3
  obtain ⟨m1, m2, m3, m4⟩ := hM0
  obtain ⟨T, hT⟩ := rTe_ex hH b0 d0
  obtain ⟨a0, c0, fs0, w0, e1, s0, t0, e4⟩ := m1 (0, 10, 1) (List.mem_of_getElem? (i := 0) rfl)
  obtain rfl : x0 = a0 := Sum.inl.inj (Option.some.inj (Sum.inr.inj (Sum.inr.inj (Option.some.inj (show some (rR x0) = some _ from e1)))))
  obtain rfl : rR x1 = w0 := Option.some.inj (show some (rR x1) = some w0 from e4)
  clear e1 e4
  clear m1 m2 m3 m4
  have q0 : rB2 K n p 256 [rR x0, rI x2] (jup σ x1 (jsto (σ x1) x2.toNatClampNeg x3)) := ro2_256.mpr (by
    obtain ⟨g, h⟩ := rRo_of (k := 62) (f := 10) (kr := 68) (len := 602) hH b0 d0 s0 t0 b1 d1 rfl
    refine ⟨by omega, _, rRo_up h s0 t0, ?_⟩
    have hi : x2.toNatClampNeg = x2.toInt.toNat := rfl
    unfold upd
    rw [if_pos (by rw [hi])]
    omega)
  exact ⟨p, fun _ => rfl, ⟨(fun q h => by cases h), fun q h => (by cases h), (fun f h => by cases h), (aAllc ⟨_, rfl, rF_p (r := 4098) (by decide) (by decide) q0⟩ (fun f h => by cases h))⟩, [], List.mem_cons_self, fun f h => (by cases h)⟩
theorem rw_raN {K : Nat → Nat} {n : Nat} {JX : (Nat → jcell) → Prop} : aGho (rG K n) fa_T K n JX ag_raN := by
  refine aGho_of ⟨rfl, rfl⟩ ?_
  intro p σ ρ hH hX hA hM0
  have hG := aAG_of hA.1 (fun i e v he hv => (hA.2 i e v he hv).1)
  clear hA
  obtain ⟨v0, v1, v2, v3, rfl, g0, g1, g2, g3⟩ := rA_4 hG
  clear hG
  obtain ⟨x0, rfl, b0, d0⟩ := rG_ref (by decide) g0
  obtain ⟨x1, rfl, b1, d1⟩ := rG_ref (by decide) g1
  obtain ⟨x2, rfl, b2, d2⟩ := aG_int g2
  dsimp only at b2 d2
  obtain ⟨x3, rfl, b3, d3⟩ := aG_int g3
  dsimp only at b3 d3
  obtain ⟨m1, m2, m3, m4⟩ := hM0
  obtain ⟨T, hT⟩ := rTe_ex hH b0 d0
  obtain ⟨a0, c0, fs0, w0, e1, s0, t0, e4⟩ := m1 (0, 11, 1) (List.mem_of_getElem? (i := 0) rfl)
  obtain rfl : x0 = a0 := Sum.inl.inj (Option.some.inj (Sum.inr.inj (Sum.inr.inj (Option.some.inj (show some (rR x0) = some _ from e1)))))
  obtain rfl : rR x1 = w0 := Option.some.inj (show some (rR x1) = some w0 from e4)
  clear e1 e4
  clear m1 m2 m3 m4
  have q0 : rB2 K n p 257 [rR x0, rI x2] (jup σ x1 (jsto (σ x1) x2.toNatClampNeg x3)) := ro2_257.mpr (by
    obtain ⟨g, h⟩ := rRo_of (k := 62) (f := 11) (kr := 69) (len := 602) hH b0 d0 s0 t0 b1 d1 rfl
    refine ⟨by omega, _, rRo_up h s0 t0, ?_⟩
    have hi : x2.toNatClampNeg = x2.toInt.toNat := rfl
    unfold upd
    rw [if_pos (by rw [hi])]
    omega)
  exact ⟨p, fun _ => rfl, ⟨(fun q h => by cases h), fun q h => (by cases h), (fun f h => by cases h), (aAllc ⟨_, rfl, rF_p (r := 4114) (by decide) (by decide) q0⟩ (fun f h => by cases h))⟩, [], List.mem_cons_self, fun f h => (by cases h)⟩
theorem rw_rvPW {K : Nat → Nat} {n : Nat} {JX : (Nat → jcell) → Prop} : aGho (rG K n) fa_T K n JX ag_rvPW := by
  refine aGho_of ⟨rfl, rfl⟩ ?_
  intro p σ ρ hH hX hA hM0
  have hG := aAG_of hA.1 (fun i e v he hv => (hA.2 i e v he hv).1)
  clear hA
  obtain ⟨v0, rfl, g0⟩ := rA_1 hG
  clear hG
  obtain ⟨x0, rfl, b0, d0⟩ := aG_int g0
  dsimp only at b0 d0
  obtain ⟨m1, m2, m3, m4⟩ := hM0
  clear m1 m2 m3 m4
  have hd : (0 ≤ (1 * x0.toInt + 0) + 1 ∧ 0 ≤ (-1 * x0.toInt + 0) + -1) ∨ (0 ≤ (1 * x0.toInt + 0) + 0) := by
    omega
  rcases hd with ⟨w0, w1⟩ | w0
  · exact ⟨p, fun _ => rfl, ⟨(fun q h => by cases h), fun q h => (by cases h), (fun f h => by cases h), (fun f h => by cases h)⟩, _, List.mem_of_getElem? (i := 0) rfl, (aAllc ⟨_, rfl, w0⟩ (aAllc ⟨_, rfl, w1⟩ (fun f h => by cases h)))⟩
  · exact ⟨p, fun _ => rfl, ⟨(fun q h => by cases h), fun q h => (by cases h), (fun f h => by cases h), (fun f h => by cases h)⟩, _, List.mem_of_getElem? (i := 1) rfl, (aAllc ⟨_, rfl, w0⟩ (fun f h => by cases h))⟩
theorem rw_raA0 {K : Nat → Nat} {n : Nat} {JX : (Nat → jcell) → Prop} : aGho (rG K n) fa_T K n JX ag_raA0 := by
  refine aGho_of ⟨rfl, rfl⟩ ?_
  intro p σ ρ hH hX hA hM0
  have hG := aAG_of hA.1 (fun i e v he hv => (hA.2 i e v he hv).1)
  clear hA
  obtain ⟨v0, v1, v2, v3, v4, v5, v6, rfl, g0, g1, g2, g3, g4, g5, g6⟩ := rA_7 hG
  clear hG
  obtain ⟨x0, rfl, b0, d0⟩ := rG_ref (by decide) g0
  obtain ⟨x1, rfl, b1, d1⟩ := aG_int g1
  dsimp only at b1 d1
  obtain ⟨x2, rfl, b2, d2⟩ := aG_int g2
  dsimp only at b2 d2
  obtain ⟨x3, rfl, b3, d3⟩ := aG_int g3
  dsimp only at b3 d3
  obtain ⟨x4, rfl, b4, d4⟩ := aG_int g4
  dsimp only at b4 d4
  obtain ⟨x5, rfl, b5, d5⟩ := aG_int g5
  dsimp only at b5 d5
  obtain ⟨x6, rfl, b6, d6⟩ := rG_ref (by decide) g6
  obtain ⟨m1, m2, m3, m4⟩ := hM0
  obtain ⟨T, hT⟩ := rTe_ex hH b0 d0
  obtain ⟨a0, c0, fs0, w0, e1, s0, t0, e4⟩ := m1 (0, 7, 6) (List.mem_of_getElem? (i := 0) rfl)
  obtain rfl : x0 = a0 := Sum.inl.inj (Option.some.inj (Sum.inr.inj (Sum.inr.inj (Option.some.inj (show some (rR x0) = some _ from e1)))))
  obtain rfl : rR x6 = w0 := Option.some.inj (show some (rR x6) = some w0 from e4)
  clear e1 e4
  obtain ⟨a, mc0, ty0, gc0, ic0, e1, sc0, jc0, e4, e5⟩ := m2 (6, ([(1, 1)], 0), 4) (List.mem_of_getElem? (i := 0) rfl)
  obtain rfl : x6 = a := Sum.inl.inj (Option.some.inj (Sum.inr.inj (Sum.inr.inj (Option.some.inj (show some (rR x6) = some _ from e1)))))
  obtain ⟨gc0, rfl⟩ : ∃ g, gc0 = .inl g := by
    rcases gc0 with g | g
    · exact ⟨g, rfl⟩
    · exact absurd (show some (rI x4) = some (.inr (.inl (g ic0))) from e5) (fun h => by cases h)
  have sc0 : σ x6 = .inl (ty0, mc0, .inl gc0) := sc0
  have ec0 : x4 = gc0 ic0 := Sum.inl.inj (Option.some.inj (show some (rI x4) = some _ from e5))
  have kc0 : (ic0 : Int) = (1 * x1.toInt + 0) + 0 := by
    obtain ⟨z, e6, e7⟩ := e4
    obtain rfl : (1 * x1.toInt + 0) = z := Option.some.inj (show some (1 * x1.toInt + 0) = some z from e6)
    exact e7
  clear e1 e4 e5
  have l0 : 0 ≤ (1 * x5.toInt + (-1 * x4.toInt + 0)) + -1 := by
    obtain ⟨z, e6, e7⟩ := m3 ([(5, 1), (4, -1)], -1) (List.mem_of_getElem? (i := 0) rfl)
    obtain rfl : (1 * x5.toInt + (-1 * x4.toInt + 0)) = z := Option.some.inj (show some (1 * x5.toInt + (-1 * x4.toInt + 0)) = some z from e6)
    exact e7
  have l1 : 0 ≤ (-1 * x5.toInt + (1 * x4.toInt + 0)) + 1 := by
    obtain ⟨z, e6, e7⟩ := m3 ([(5, -1), (4, 1)], 1) (List.mem_of_getElem? (i := 1) rfl)
    obtain rfl : (-1 * x5.toInt + (1 * x4.toInt + 0)) = z := Option.some.inj (show some (-1 * x5.toInt + (1 * x4.toInt + 0)) = some z from e6)
    exact e7
  have f0 : rB2 K n p 241 [rR x0, rI x1, rI x2] σ := by
    obtain ⟨w, e6, e7⟩ := m4 (3859, [0, 1, 2]) (List.mem_of_getElem? (i := 0) rfl)
    obtain rfl : [rR x0, rI x1, rI x2] = w := Option.some.inj (show some [rR x0, rI x1, rI x2] = some w from e6)
    exact (rF_b (r := 3859) (by decide) rfl).mp e7
  obtain ⟨C, y, hY, f0⟩ := ro2_241.mp f0
  have f1 : rB2 K n p 266 [rR x0, rI x1, rI x2, rI x3] σ := by
    obtain ⟨w, e6, e7⟩ := m4 (4260, [0, 1, 2, 3]) (List.mem_of_getElem? (i := 1) rfl)
    obtain rfl : [rR x0, rI x1, rI x2, rI x3] = w := Option.some.inj (show some [rR x0, rI x1, rI x2, rI x3] = some w from e6)
    exact (rF_b (r := 4260) (by decide) rfl).mp e7
  obtain ⟨C9, y9, h9, f1⟩ := ro2_266.mp f1
  obtain ⟨rfl, rfl⟩ := rTY_u hY h9
  clear h9
  have f2 : rB2 K n p 264 [rR x0, rI x1] σ := by
    obtain ⟨w, e6, e7⟩ := m4 (4226, [0, 1]) (List.mem_of_getElem? (i := 2) rfl)
    obtain rfl : [rR x0, rI x1] = w := Option.some.inj (show some [rR x0, rI x1] = some w from e6)
    exact (rF_b (r := 4226) (by decide) rfl).mp e7
  have f2 := ro2_264.mp f2
  clear m1 m2 m3 m4
  obtain ⟨gC, rC, eC⟩ := hY.2.1
  have e0 := rRo_c (i := ic0) rC s0 t0 sc0 ec0
  rw [show ic0 = x1.toInt.toNat by omega, eC] at e0
  obtain ⟨k0, g9, r9, h9⟩ := f2
  obtain rfl := rRo_u rC r9
  rw [eC] at h9
  have hn := f0.2
  have r0 : 0 ≤ (-1 * x4.toInt + 0) + 299 := by
    omega
  have r1 : 0 ≤ (1 * x4.toInt + (-1 * x2.toInt + 0)) + 0 := by
    omega
  have q0 : rB2 K n p 258 [rR x0, rI x1, rI x2, rI x3, rI x5] σ := ro2_258.mpr (by
    exact ⟨y, hY.1, b1, by omega, by omega, by rw [show x5.toInt - 1 = C by omega]; exact hY.2.2, f0.1, by omega, f1.1, f1.2⟩)
  exact ⟨p, fun _ => rfl, ⟨(fun q h => by cases h), fun q h => (by cases h), (aAllc ⟨_, rfl, r0⟩ (aAllc ⟨_, rfl, r1⟩ (fun f h => by cases h))), (aAllc ⟨_, rfl, (rF_b (r := 4133) (by decide) rfl).mpr q0⟩ (fun f h => by cases h))⟩, [], List.mem_cons_self, fun f h => (by cases h)⟩
theorem rw_raCT {K : Nat → Nat} {n : Nat} {JX : (Nat → jcell) → Prop} : aGho (rG K n) fa_T K n JX ag_raCT := by
  refine aGho_of ⟨rfl, rfl⟩ ?_
  intro p σ ρ hH hX hA hM0
  have hG := aAG_of hA.1 (fun i e v he hv => (hA.2 i e v he hv).1)
  clear hA
  obtain ⟨v0, v1, v2, v3, rfl, g0, g1, g2, g3⟩ := rA_4 hG
  clear hG
  obtain ⟨x0, rfl, b0, d0⟩ := rG_ref (by decide) g0
  obtain ⟨x1, rfl, b1, d1⟩ := rG_ref (by decide) g1
  obtain ⟨x2, rfl, b2, d2⟩ := aG_int g2
  dsimp only at b2 d2
  obtain ⟨x3, rfl, b3, d3⟩ := aG_int g3
  dsimp only at b3 d3
  obtain ⟨m1, m2, m3, m4⟩ := hM0
  obtain ⟨T, hT⟩ := rTe_ex hH b0 d0
  obtain ⟨a0, c0, fs0, w0, e1, s0, t0, e4⟩ := m1 (0, 7, 1) (List.mem_of_getElem? (i := 0) rfl)
  obtain rfl : x0 = a0 := Sum.inl.inj (Option.some.inj (Sum.inr.inj (Sum.inr.inj (Option.some.inj (show some (rR x0) = some _ from e1)))))
  obtain rfl : rR x1 = w0 := Option.some.inj (show some (rR x1) = some w0 from e4)
  clear e1 e4
  clear m1 m2 m3 m4
  have q0 : rB2 K n p 262 [rR x0, rI x2, rI x3] (jup σ x1 (jsto (σ x1) x2.toNatClampNeg x3)) := ro2_262.mpr (by
    obtain ⟨g, h⟩ := rRo_of (k := 62) (f := 7) (kr := 65) (len := 2) hH b0 d0 s0 t0 b1 d1 rfl
    refine ⟨by omega, _, rRo_up h s0 t0, ?_⟩
    have hi : x2.toNatClampNeg = x2.toInt.toNat := rfl
    unfold upd
    rw [if_pos (by rw [hi])])
  exact ⟨p, fun _ => rfl, ⟨(fun q h => by cases h), fun q h => (by cases h), (fun f h => by cases h), (aAllc ⟨_, rfl, rF_p (r := 4195) (by decide) (by decide) q0⟩ (fun f h => by cases h))⟩, [], List.mem_cons_self, fun f h => (by cases h)⟩
theorem rw_raP {K : Nat → Nat} {n : Nat} {JX : (Nat → jcell) → Prop} : aGho (rG K n) fa_T K n JX ag_raP := by
  refine aGho_of ⟨rfl, rfl⟩ ?_
  intro p σ ρ hH hX hA hM0
  have hG := aAG_of hA.1 (fun i e v he hv => (hA.2 i e v he hv).1)
  clear hA
  obtain ⟨v0, v1, v2, v3, v4, v5, rfl, g0, g1, g2, g3, g4, g5⟩ := rA_6 hG
  clear hG
  obtain ⟨x0, rfl, b0, d0⟩ := rG_ref (by decide) g0
  obtain ⟨x1, rfl, b1, d1⟩ := rG_ref (by decide) g1
  obtain ⟨x2, rfl, b2, d2⟩ := aG_int g2
  dsimp only at b2 d2
  obtain ⟨x3, rfl, b3, d3⟩ := aG_int g3
  dsimp only at b3 d3
  obtain ⟨x4, rfl, b4, d4⟩ := aG_int g4
  dsimp only at b4 d4
  obtain ⟨x5, rfl, b5, d5⟩ := aG_int g5
  dsimp only at b5 d5
  obtain ⟨m1, m2, m3, m4⟩ := hM0
  obtain ⟨T, hT⟩ := rTe_ex hH b0 d0
  obtain ⟨a0, c0, fs0, w0, e1, s0, t0, e4⟩ := m1 (0, 8, 1) (List.mem_of_getElem? (i := 0) rfl)
  obtain rfl : x0 = a0 := Sum.inl.inj (Option.some.inj (Sum.inr.inj (Sum.inr.inj (Option.some.inj (show some (rR x0) = some _ from e1)))))
  obtain rfl : rR x1 = w0 := Option.some.inj (show some (rR x1) = some w0 from e4)
  clear e1 e4
  have l0 : 0 ≤ (1 * x4.toInt + (-301 * x2.toInt + (-1 * x3.toInt + 0))) + 0 := by
    obtain ⟨z, e6, e7⟩ := m3 ([(4, 1), (2, -301), (3, -1)], 0) (List.mem_of_getElem? (i := 0) rfl)
    obtain rfl : (1 * x4.toInt + (-301 * x2.toInt + (-1 * x3.toInt + 0))) = z := Option.some.inj (show some (1 * x4.toInt + (-301 * x2.toInt + (-1 * x3.toInt + 0))) = some z from e6)
    exact e7
  have l1 : 0 ≤ (-1 * x4.toInt + (301 * x2.toInt + (1 * x3.toInt + 0))) + 0 := by
    obtain ⟨z, e6, e7⟩ := m3 ([(4, -1), (2, 301), (3, 1)], 0) (List.mem_of_getElem? (i := 1) rfl)
    obtain rfl : (-1 * x4.toInt + (301 * x2.toInt + (1 * x3.toInt + 0))) = z := Option.some.inj (show some (-1 * x4.toInt + (301 * x2.toInt + (1 * x3.toInt + 0))) = some z from e6)
    exact e7
  clear m1 m2 m3 m4
  have q0 : rB2 K n p 259 [rR x0, rI x2, rI x3, rI x5] (jup σ x1 (jsto (σ x1) x4.toNatClampNeg x5)) := ro2_259.mpr (by
    obtain ⟨g, h⟩ := rRo_of (k := 62) (f := 8) (kr := 66) (len := 602) hH b0 d0 s0 t0 b1 d1 rfl
    refine ⟨by omega, _, rRo_up h s0 t0, ?_⟩
    have hi : x4.toNatClampNeg = x4.toInt.toNat := rfl
    unfold upd
    rw [if_pos (by rw [hi]; omega)])
  exact ⟨p, fun _ => rfl, ⟨(fun q h => by cases h), fun q h => (by cases h), (fun f h => by cases h), (aAllc ⟨_, rfl, rF_p (r := 4148) (by decide) (by decide) q0⟩ (fun f h => by cases h))⟩, [], List.mem_cons_self, fun f h => (by cases h)⟩
theorem rw_raM {K : Nat → Nat} {n : Nat} {JX : (Nat → jcell) → Prop} : aGho (rG K n) fa_T K n JX ag_raM := by
  refine aGho_of ⟨rfl, rfl⟩ ?_
  intro p σ ρ hH hX hA hM0
  have hG := aAG_of hA.1 (fun i e v he hv => (hA.2 i e v he hv).1)
  clear hA
  obtain ⟨v0, v1, v2, v3, v4, v5, rfl, g0, g1, g2, g3, g4, g5⟩ := rA_6 hG
  clear hG
  obtain ⟨x0, rfl, b0, d0⟩ := rG_ref (by decide) g0
  obtain ⟨x1, rfl, b1, d1⟩ := rG_ref (by decide) g1
  obtain ⟨x2, rfl, b2, d2⟩ := aG_int g2
  dsimp only at b2 d2
  obtain ⟨x3, rfl, b3, d3⟩ := aG_int g3
  dsimp only at b3 d3
  obtain ⟨x4, rfl, b4, d4⟩ := aG_int g4
  dsimp only at b4 d4
  obtain ⟨x5, rfl, b5, d5⟩ := aG_int g5
  dsimp only at b5 d5
  obtain ⟨m1, m2, m3, m4⟩ := hM0
  obtain ⟨T, hT⟩ := rTe_ex hH b0 d0
  obtain ⟨a0, c0, fs0, w0, e1, s0, t0, e4⟩ := m1 (0, 9, 1) (List.mem_of_getElem? (i := 0) rfl)
  obtain rfl : x0 = a0 := Sum.inl.inj (Option.some.inj (Sum.inr.inj (Sum.inr.inj (Option.some.inj (show some (rR x0) = some _ from e1)))))
  obtain rfl : rR x1 = w0 := Option.some.inj (show some (rR x1) = some w0 from e4)
  clear e1 e4
  have l0 : 0 ≤ (1 * x4.toInt + (-301 * x2.toInt + (-1 * x3.toInt + 0))) + 0 := by
    obtain ⟨z, e6, e7⟩ := m3 ([(4, 1), (2, -301), (3, -1)], 0) (List.mem_of_getElem? (i := 0) rfl)
    obtain rfl : (1 * x4.toInt + (-301 * x2.toInt + (-1 * x3.toInt + 0))) = z := Option.some.inj (show some (1 * x4.toInt + (-301 * x2.toInt + (-1 * x3.toInt + 0))) = some z from e6)
    exact e7
  have l1 : 0 ≤ (-1 * x4.toInt + (301 * x2.toInt + (1 * x3.toInt + 0))) + 0 := by
    obtain ⟨z, e6, e7⟩ := m3 ([(4, -1), (2, 301), (3, 1)], 0) (List.mem_of_getElem? (i := 1) rfl)
    obtain rfl : (-1 * x4.toInt + (301 * x2.toInt + (1 * x3.toInt + 0))) = z := Option.some.inj (show some (-1 * x4.toInt + (301 * x2.toInt + (1 * x3.toInt + 0))) = some z from e6)
    exact e7
  clear m1 m2 m3 m4
  have q0 : rB2 K n p 260 [rR x0, rI x2, rI x3, rI x5] (jup σ x1 (jsto (σ x1) x4.toNatClampNeg x5)) := ro2_260.mpr (by
    obtain ⟨g, h⟩ := rRo_of (k := 62) (f := 9) (kr := 67) (len := 602) hH b0 d0 s0 t0 b1 d1 rfl
    refine ⟨by omega, _, rRo_up h s0 t0, ?_⟩
    have hi : x4.toNatClampNeg = x4.toInt.toNat := rfl
    unfold upd
    rw [if_pos (by rw [hi]; omega)])
  exact ⟨p, fun _ => rfl, ⟨(fun q h => by cases h), fun q h => (by cases h), (fun f h => by cases h), (aAllc ⟨_, rfl, rF_p (r := 4164) (by decide) (by decide) q0⟩ (fun f h => by cases h))⟩, [], List.mem_cons_self, fun f h => (by cases h)⟩
theorem rw_raLc {K : Nat → Nat} {n : Nat} {JX : (Nat → jcell) → Prop} : aGho (rG K n) fa_T K n JX ag_raLc := by
  refine aGho_of ⟨rfl, rfl⟩ ?_
  intro p σ ρ hH hX hA hM0
  have hG := aAG_of hA.1 (fun i e v he hv => (hA.2 i e v he hv).1)
  clear hA
  obtain ⟨v0, v1, v2, v3, v4, v5, v6, v7, v8, rfl, g0, g1, g2, g3, g4, g5, g6, g7, g8⟩ := rA_9 hG
  clear hG
  obtain ⟨x0, rfl, b0, d0⟩ := rG_ref (by decide) g0
  obtain ⟨x1, rfl, b1, d1⟩ := rG_ref (by decide) g1
  obtain ⟨x2, rfl, b2, d2⟩ := aG_int g2
  dsimp only at b2 d2
  obtain ⟨x3, rfl, b3, d3⟩ := aG_int g3
  dsimp only at b3 d3
  obtain ⟨x4, rfl, b4, d4⟩ := aG_int g4
  dsimp only at b4 d4
  obtain ⟨x5, rfl, b5, d5⟩ := aG_int g5
  dsimp only at b5 d5
  obtain ⟨x6, rfl, b6, d6⟩ := aG_int g6
  dsimp only at b6 d6
  obtain ⟨x7, rfl, b7, d7⟩ := aG_int g7
  dsimp only at b7 d7
  obtain ⟨x8, rfl, b8, d8⟩ := aG_int g8
  dsimp only at b8 d8
  obtain ⟨m1, m2, m3, m4⟩ := hM0
  obtain ⟨T, hT⟩ := rTe_ex hH b0 d0
  obtain ⟨a0, c0, fs0, w0, e1, s0, t0, e4⟩ := m1 (0, 10, 1) (List.mem_of_getElem? (i := 0) rfl)
  obtain rfl : x0 = a0 := Sum.inl.inj (Option.some.inj (Sum.inr.inj (Sum.inr.inj (Option.some.inj (show some (rR x0) = some _ from e1)))))
  obtain rfl : rR x1 = w0 := Option.some.inj (show some (rR x1) = some w0 from e4)
  clear e1 e4
  obtain ⟨a, mc0, ty0, gc0, ic0, e1, sc0, jc0, e4, e5⟩ := m2 (1, ([(2, 301), (3, 1)], 0), 8) (List.mem_of_getElem? (i := 0) rfl)
  obtain rfl : x1 = a := Sum.inl.inj (Option.some.inj (Sum.inr.inj (Sum.inr.inj (Option.some.inj (show some (rR x1) = some _ from e1)))))
  obtain ⟨gc0, rfl⟩ : ∃ g, gc0 = .inl g := by
    rcases gc0 with g | g
    · exact ⟨g, rfl⟩
    · exact absurd (show some (rI x8) = some (.inr (.inl (g ic0))) from e5) (fun h => by cases h)
  have sc0 : σ x1 = .inl (ty0, mc0, .inl gc0) := sc0
  have ec0 : x8 = gc0 ic0 := Sum.inl.inj (Option.some.inj (show some (rI x8) = some _ from e5))
  have kc0 : (ic0 : Int) = (301 * x2.toInt + (1 * x3.toInt + 0)) + 0 := by
    obtain ⟨z, e6, e7⟩ := e4
    obtain rfl : (301 * x2.toInt + (1 * x3.toInt + 0)) = z := Option.some.inj (show some (301 * x2.toInt + (1 * x3.toInt + 0)) = some z from e6)
    exact e7
  clear e1 e4 e5
  have l0 : 0 ≤ (1 * x6.toInt + (-301 * x2.toInt + (-1 * x5.toInt + 0))) + 0 := by
    obtain ⟨z, e6, e7⟩ := m3 ([(6, 1), (2, -301), (5, -1)], 0) (List.mem_of_getElem? (i := 0) rfl)
    obtain rfl : (1 * x6.toInt + (-301 * x2.toInt + (-1 * x5.toInt + 0))) = z := Option.some.inj (show some (1 * x6.toInt + (-301 * x2.toInt + (-1 * x5.toInt + 0))) = some z from e6)
    exact e7
  have l1 : 0 ≤ (-1 * x6.toInt + (301 * x2.toInt + (1 * x5.toInt + 0))) + 0 := by
    obtain ⟨z, e6, e7⟩ := m3 ([(6, -1), (2, 301), (5, 1)], 0) (List.mem_of_getElem? (i := 1) rfl)
    obtain rfl : (-1 * x6.toInt + (301 * x2.toInt + (1 * x5.toInt + 0))) = z := Option.some.inj (show some (-1 * x6.toInt + (301 * x2.toInt + (1 * x5.toInt + 0))) = some z from e6)
    exact e7
  have l2 : 0 ≤ (1 * x7.toInt + (-301 * x2.toInt + (-1 * x3.toInt + 0))) + 0 := by
    obtain ⟨z, e6, e7⟩ := m3 ([(7, 1), (2, -301), (3, -1)], 0) (List.mem_of_getElem? (i := 2) rfl)
    obtain rfl : (1 * x7.toInt + (-301 * x2.toInt + (-1 * x3.toInt + 0))) = z := Option.some.inj (show some (1 * x7.toInt + (-301 * x2.toInt + (-1 * x3.toInt + 0))) = some z from e6)
    exact e7
  have l3 : 0 ≤ (-1 * x7.toInt + (301 * x2.toInt + (1 * x3.toInt + 0))) + 0 := by
    obtain ⟨z, e6, e7⟩ := m3 ([(7, -1), (2, 301), (3, 1)], 0) (List.mem_of_getElem? (i := 3) rfl)
    obtain rfl : (-1 * x7.toInt + (301 * x2.toInt + (1 * x3.toInt + 0))) = z := Option.some.inj (show some (-1 * x7.toInt + (301 * x2.toInt + (1 * x3.toInt + 0))) = some z from e6)
    exact e7
  have f0 : rB2 K n p 258 [rR x0, rI x2, rI x3, rI x4, rI x5] σ := by
    obtain ⟨w, e6, e7⟩ := m4 (4133, [0, 2, 3, 4, 5]) (List.mem_of_getElem? (i := 0) rfl)
    obtain rfl : [rR x0, rI x2, rI x3, rI x4, rI x5] = w := Option.some.inj (show some [rR x0, rI x2, rI x3, rI x4, rI x5] = some w from e6)
    exact (rF_b (r := 4133) (by decide) rfl).mp e7
  have f0 := ro2_258.mp f0
  have f1 : rB2 K n p 259 [rR x0, rI x2, rI x5, rI x3] σ := by
    obtain ⟨w, e6, e7⟩ := m4 (4148, [0, 2, 5, 3]) (List.mem_of_getElem? (i := 1) rfl)
    obtain rfl : [rR x0, rI x2, rI x5, rI x3] = w := Option.some.inj (show some [rR x0, rI x2, rI x5, rI x3] = some w from e6)
    exact (rF_b (r := 4148) (by decide) rfl).mp e7
  have f1 := ro2_259.mp f1
  have f2 : rB2 K n p 260 [rR x0, rI x2, rI x5, rI x4] σ := by
    obtain ⟨w, e6, e7⟩ := m4 (4164, [0, 2, 5, 4]) (List.mem_of_getElem? (i := 2) rfl)
    obtain rfl : [rR x0, rI x2, rI x5, rI x4] = w := Option.some.inj (show some [rR x0, rI x2, rI x5, rI x4] = some w from e6)
    exact (rF_b (r := 4164) (by decide) rfl).mp e7
  have f2 := ro2_260.mp f2
  have f3 : rB2 K n p 256 [rR x0, rI x6] σ := by
    obtain ⟨w, e6, e7⟩ := m4 (4098, [0, 6]) (List.mem_of_getElem? (i := 3) rfl)
    obtain rfl : [rR x0, rI x6] = w := Option.some.inj (show some [rR x0, rI x6] = some w from e6)
    exact (rF_b (r := 4098) (by decide) rfl).mp e7
  have f3 := ro2_256.mp f3
  have f4 : rB2 K n p 257 [rR x0, rI x6] σ := by
    obtain ⟨w, e6, e7⟩ := m4 (4114, [0, 6]) (List.mem_of_getElem? (i := 4) rfl)
    obtain rfl : [rR x0, rI x6] = w := Option.some.inj (show some [rR x0, rI x6] = some w from e6)
    exact (rF_b (r := 4114) (by decide) rfl).mp e7
  have f4 := ro2_257.mp f4
  clear m1 m2 m3 m4
  have q0 : rB2 K n p 261 [rR x0, rI x2, rI x5] (jup σ x1 (jsto (σ x1) x7.toNatClampNeg x5)) := ro2_261.mpr (by
    obtain ⟨y, hT, a1, a2, a3, a4, a5, a6, a7, a8⟩ := f0
    obtain ⟨-, g1, r1, e1⟩ := f1
    obtain ⟨-, g2, r2, e2⟩ := f2
    obtain ⟨-, g3, r3, e3⟩ := f3
    obtain ⟨-, g4, r4, e4⟩ := f4
    obtain ⟨⟨h1, q1, z1⟩, ⟨h2, q2, z2⟩, ⟨h3, q3, z3⟩, ⟨h4, q4, z4⟩, h5, h6, q5, q6, z5, z6⟩ := hT
    obtain rfl := rRo_u r1 q1
    obtain rfl := rRo_u r2 q2
    obtain rfl := rRo_u r3 q3
    obtain rfl := rRo_u r4 q4
    have ei : x6.toInt = 301 * x2.toInt + x5.toInt := by omega
    rw [ei] at e3 e4
    have hi : x7.toNatClampNeg = x7.toInt.toNat := rfl
    have u1 : y.1 (x5.toInt - 1 + 1) = x3.toInt := by
      rw [z1, show x5.toInt - 1 + 1 = x5.toInt by omega]
      exact e1
    have u2 : y.2.1 (x5.toInt - 1 + 1) = x4.toInt := by
      rw [z2, show x5.toInt - 1 + 1 = x5.toInt by omega]
      exact e2
    have u3 : y.2.2.1 (x5.toInt - 1 + 1) = -1 := by
      rw [z3, show x5.toInt - 1 + 1 = x5.toInt by omega]
      exact e3
    have u4 : y.2.2.2.1 (x5.toInt - 1 + 1) = -1 := by
      rw [z4, show x5.toInt - 1 + 1 = x5.toInt by omega]
      exact e4
    have hc : y.2.2.1 x3.toInt = -1 := by
      have e := rRo_c (i := ic0) r3 s0 t0 sc0 ec0
      rw [z3]
      show (g3 (301 * x2.toInt + x3.toInt).toNat).toInt = -1
      rw [show (301 * x2.toInt + x3.toInt).toNat = ic0 by omega, e]
      omega
    have w3 : ∀ k, 0 ≤ k → k ≤ x5.toInt → rSc (upd g3 x7.toNatClampNeg x5) x2.toInt k = if k = x3.toInt then x5.toInt else y.2.2.1 k := fun k k0 k1 => by
      show ((upd g3 x7.toNatClampNeg x5) (301 * x2.toInt + k).toNat).toInt = _
      unfold upd
      by_cases ck : k = x3.toInt
      · rw [if_pos ck, if_pos (by rw [hi]; omega)]
      · rw [if_neg ck, if_neg (by rw [hi]; omega), z3]
        rfl
    refine ⟨(y.1, y.2.1, rSc (upd g3 x7.toNatClampNeg x5) x2.toInt, y.2.2.2.1, y.2.2.2.2), ⟨⟨g1, rRo_o r1 (by omega) (by omega), z1⟩, ⟨g2, rRo_o r2 (by omega) (by omega), z2⟩, ⟨_, rRo_up r3 s0 t0, rfl⟩, ⟨g4, rRo_o r4 (by omega) (by omega), z4⟩, h5, h6, rRo_o q5 (by omega) (by omega), rRo_o q6 (by omega) (by omega), z5, z6⟩, a1, ?_, b5⟩
    rw [show x5.toInt = x5.toInt - 1 + 1 by omega]
    refine rTr_ap a4 (by omega) a5 a6 a7 a8 (fun _ _ _ => rfl) (fun _ _ _ => rfl) rfl u1 u2 ?_ u4 (fun k k0 k1 kn => ?_) ?_ (fun k k0 k1 => ?_)
    · dsimp only
      rw [w3 _ (by omega) (by omega), if_neg (by omega)]
      exact u3
    · dsimp only
      rw [w3 k k0 (by omega), if_neg kn]
    · dsimp only
      rw [w3 _ b3 (by omega), if_pos rfl, if_pos hc]
      omega
    · dsimp only
      rw [if_neg]
      rintro ⟨⟨hp, h1k⟩, -⟩
      obtain ⟨L, -, m2, m3, -⟩ := rTr_L a4 a5 a6
      have hm := (m3 k).mpr ⟨h1k, k1, hp⟩
      rw [hc] at m2
      match L, m2, m3, hm with
      | [], _, _, hm => cases hm
      | d :: r, m2, m3, _ =>
        have e9 : -1 = d := m2.1
        have := (m3 d).mp List.mem_cons_self
        omega)
  exact ⟨p, fun _ => rfl, ⟨(fun q h => by cases h), fun q h => (by cases h), (fun f h => by cases h), (aAllc ⟨_, rfl, rF_p (r := 4179) (by decide) (by decide) q0⟩ (fun f h => by cases h))⟩, [], List.mem_cons_self, fun f h => (by cases h)⟩
theorem rw_raD0 {K : Nat → Nat} {n : Nat} {JX : (Nat → jcell) → Prop} : aGho (rG K n) fa_T K n JX ag_raD0 := by
  refine aGho_n1 (b := (0, 301)) rfl rfl ?_
  intro p σ ρ hH hX hA hM0
  have hG := aAG_of hA.1 (fun i e v he hv => (hA.2 i e v he hv).1)
  clear hA
  obtain ⟨v0, v1, v2, v3, v4, v5, v6, rfl, g0, g1, g2, g3, g4, g5, g6⟩ := rA_7 hG
  clear hG
  obtain ⟨x0, rfl, b0, d0⟩ := rG_ref (by decide) g0
  obtain ⟨x1, rfl, b1, d1⟩ := aG_int g1
  dsimp only at b1 d1
  obtain ⟨x2, rfl, b2, d2⟩ := aG_int g2
  dsimp only at b2 d2
  obtain ⟨x3, rfl, b3, d3⟩ := aG_int g3
  dsimp only at b3 d3
  obtain ⟨x4, rfl, b4, d4⟩ := aG_int g4
  dsimp only at b4 d4
  obtain ⟨x5, rfl, b5, d5⟩ := aG_int g5
  dsimp only at b5 d5
  obtain ⟨x6, rfl, b6, d6⟩ := rG_ref (by decide) g6
  obtain ⟨m1, m2, m3, m4⟩ := hM0
  obtain ⟨T, hT⟩ := rTe_ex hH b0 d0
  obtain ⟨a0, c0, fs0, w0, e1, s0, t0, e4⟩ := m1 (0, 10, 6) (List.mem_of_getElem? (i := 0) rfl)
  obtain rfl : x0 = a0 := Sum.inl.inj (Option.some.inj (Sum.inr.inj (Sum.inr.inj (Option.some.inj (show some (rR x0) = some _ from e1)))))
  obtain rfl : rR x6 = w0 := Option.some.inj (show some (rR x6) = some w0 from e4)
  clear e1 e4
  obtain ⟨a, mc0, ty0, gc0, ic0, e1, sc0, jc0, e4, e5⟩ := m2 (6, ([(1, 301), (2, 1)], 0), 5) (List.mem_of_getElem? (i := 0) rfl)
  obtain rfl : x6 = a := Sum.inl.inj (Option.some.inj (Sum.inr.inj (Sum.inr.inj (Option.some.inj (show some (rR x6) = some _ from e1)))))
  obtain ⟨gc0, rfl⟩ : ∃ g, gc0 = .inl g := by
    rcases gc0 with g | g
    · exact ⟨g, rfl⟩
    · exact absurd (show some (rI x5) = some (.inr (.inl (g ic0))) from e5) (fun h => by cases h)
  have sc0 : σ x6 = .inl (ty0, mc0, .inl gc0) := sc0
  have ec0 : x5 = gc0 ic0 := Sum.inl.inj (Option.some.inj (show some (rI x5) = some _ from e5))
  have kc0 : (ic0 : Int) = (301 * x1.toInt + (1 * x2.toInt + 0)) + 0 := by
    obtain ⟨z, e6, e7⟩ := e4
    obtain rfl : (301 * x1.toInt + (1 * x2.toInt + 0)) = z := Option.some.inj (show some (301 * x1.toInt + (1 * x2.toInt + 0)) = some z from e6)
    exact e7
  clear e1 e4 e5
  have f0 : rB2 K n p 258 [rR x0, rI x1, rI x2, rI x3, rI x4] σ := by
    obtain ⟨w, e6, e7⟩ := m4 (4133, [0, 1, 2, 3, 4]) (List.mem_of_getElem? (i := 0) rfl)
    obtain rfl : [rR x0, rI x1, rI x2, rI x3, rI x4] = w := Option.some.inj (show some [rR x0, rI x1, rI x2, rI x3, rI x4] = some w from e6)
    exact (rF_b (r := 4133) (by decide) rfl).mp e7
  have f0 := ro2_258.mp f0
  clear m1 m2 m3 m4
  obtain ⟨y, hT, a1, a2, a3, a4, a5, a6, a7, a8⟩ := f0
  have hc : y.2.2.1 x2.toInt = x5.toInt := rSc_c hT.2.2.1 s0 t0 sc0 ec0 (by omega)
  obtain ⟨L, n1, n2, n3, n4⟩ := rTr_L a4 a5 a6
  obtain ⟨d, r, rfl⟩ : ∃ d r, L = d :: r := by
    match L, n2 with
    | [], n2 => have e : y.2.2.1 x2.toInt = -1 := n2; omega
    | d :: r, _ => exact ⟨d, r, rfl⟩
  have l0 : y.2.2.1 x2.toInt = d := n2.1
  have l1 : d = x5.toInt := by omega
  have hd1 := (n3 d).mp List.mem_cons_self
  have l3 : (d :: r).length = r.length + 1 := rfl
  obtain ⟨x7, e7⟩ := rI32 (z := (r.length : Int)) (by omega) (by omega)
  have b7 : 0 ≤ x7.toInt := by omega
  have d7 : x7.toInt ≤ 301 := by omega
  have r0 : 0 ≤ (1 * x4.toInt + (-1 * x5.toInt + 0)) + -1 := by
    omega
  have q0 : rB2 K n p 263 [rR x0, rI x1, rI x2, rI x5, rI x7] σ := ro2_263.mpr (by
    exact ⟨y, hT, [], r, by rw [hc, ← l1]; rw [l0] at n2; exact n2, fun c hc => by have := (n3 c).mp (by rw [← l1, List.nil_append] at hc; exact hc); omega, by omega⟩)
  exact ⟨p, x7, fun _ => rfl, b7, d7, ⟨(fun q h => by cases h), fun q h => (by cases h), (aAllc ⟨_, rfl, r0⟩ (fun f h => by cases h)), (aAllc ⟨_, rfl, (rF_b (r := 4213) (by decide) rfl).mpr q0⟩ (fun f h => by cases h))⟩, [], List.mem_cons_self, fun f h => (by cases h)⟩
theorem rw_raDn {K : Nat → Nat} {n : Nat} {JX : (Nat → jcell) → Prop} : aGho (rG K n) fa_T K n JX ag_raDn := by
  refine aGho_n1 (b := (0, 301)) rfl rfl ?_
  intro p σ ρ hH hX hA hM0
  have hG := aAG_of hA.1 (fun i e v he hv => (hA.2 i e v he hv).1)
  clear hA
  obtain ⟨v0, v1, v2, v3, v4, v5, v6, v7, v8, rfl, g0, g1, g2, g3, g4, g5, g6, g7, g8⟩ := rA_9 hG
  clear hG
  obtain ⟨x0, rfl, b0, d0⟩ := rG_ref (by decide) g0
  obtain ⟨x1, rfl, b1, d1⟩ := aG_int g1
  dsimp only at b1 d1
  obtain ⟨x2, rfl, b2, d2⟩ := aG_int g2
  dsimp only at b2 d2
  obtain ⟨x3, rfl, b3, d3⟩ := aG_int g3
  dsimp only at b3 d3
  obtain ⟨x4, rfl, b4, d4⟩ := aG_int g4
  dsimp only at b4 d4
  obtain ⟨x5, rfl, b5, d5⟩ := aG_int g5
  dsimp only at b5 d5
  obtain ⟨x6, rfl, b6, d6⟩ := aG_int g6
  dsimp only at b6 d6
  obtain ⟨x7, rfl, b7, d7⟩ := aG_int g7
  dsimp only at b7 d7
  obtain ⟨x8, rfl, b8, d8⟩ := rG_ref (by decide) g8
  obtain ⟨m1, m2, m3, m4⟩ := hM0
  obtain ⟨T, hT⟩ := rTe_ex hH b0 d0
  obtain ⟨a0, c0, fs0, w0, e1, s0, t0, e4⟩ := m1 (0, 11, 8) (List.mem_of_getElem? (i := 0) rfl)
  obtain rfl : x0 = a0 := Sum.inl.inj (Option.some.inj (Sum.inr.inj (Sum.inr.inj (Option.some.inj (show some (rR x0) = some _ from e1)))))
  obtain rfl : rR x8 = w0 := Option.some.inj (show some (rR x8) = some w0 from e4)
  clear e1 e4
  obtain ⟨a, mc0, ty0, gc0, ic0, e1, sc0, jc0, e4, e5⟩ := m2 (8, ([(1, 301), (3, 1)], 0), 5) (List.mem_of_getElem? (i := 0) rfl)
  obtain rfl : x8 = a := Sum.inl.inj (Option.some.inj (Sum.inr.inj (Sum.inr.inj (Option.some.inj (show some (rR x8) = some _ from e1)))))
  obtain ⟨gc0, rfl⟩ : ∃ g, gc0 = .inl g := by
    rcases gc0 with g | g
    · exact ⟨g, rfl⟩
    · exact absurd (show some (rI x5) = some (.inr (.inl (g ic0))) from e5) (fun h => by cases h)
  have sc0 : σ x8 = .inl (ty0, mc0, .inl gc0) := sc0
  have ec0 : x5 = gc0 ic0 := Sum.inl.inj (Option.some.inj (show some (rI x5) = some _ from e5))
  have kc0 : (ic0 : Int) = (301 * x1.toInt + (1 * x3.toInt + 0)) + 0 := by
    obtain ⟨z, e6, e7⟩ := e4
    obtain rfl : (301 * x1.toInt + (1 * x3.toInt + 0)) = z := Option.some.inj (show some (301 * x1.toInt + (1 * x3.toInt + 0)) = some z from e6)
    exact e7
  clear e1 e4 e5
  have f0 : rB2 K n p 263 [rR x0, rI x1, rI x2, rI x3, rI x4] σ := by
    obtain ⟨w, e6, e7⟩ := m4 (4213, [0, 1, 2, 3, 4]) (List.mem_of_getElem? (i := 0) rfl)
    obtain rfl : [rR x0, rI x1, rI x2, rI x3, rI x4] = w := Option.some.inj (show some [rR x0, rI x1, rI x2, rI x3, rI x4] = some w from e6)
    exact (rF_b (r := 4213) (by decide) rfl).mp e7
  have f0 := ro2_263.mp f0
  have f1 : rB2 K n p 258 [rR x0, rI x1, rI x2, rI x7, rI x6] σ := by
    obtain ⟨w, e6, e7⟩ := m4 (4133, [0, 1, 2, 7, 6]) (List.mem_of_getElem? (i := 1) rfl)
    obtain rfl : [rR x0, rI x1, rI x2, rI x7, rI x6] = w := Option.some.inj (show some [rR x0, rI x1, rI x2, rI x7, rI x6] = some w from e6)
    exact (rF_b (r := 4133) (by decide) rfl).mp e7
  have f1 := ro2_258.mp f1
  clear m1 m2 m3 m4
  obtain ⟨y, hT, a1, a2, a3, a4, a5, a6, a7, a8⟩ := f1
  obtain ⟨y9, hT9, A, B, j1, j2, j3⟩ := f0
  obtain rfl := rTy_u hT hT9
  obtain ⟨L, n1, n2, n3, n4⟩ := rTr_L a4 a5 a6
  have eL : L = A ++ x3.toInt :: B := rCn_uq n2 j1 (fun c hc => by have := (n3 c).mp hc; omega) (fun c hc => by have := j2 c hc; omega)
  have hn : y.2.2.2.1 x3.toInt = x5.toInt := rSc_c hT.2.2.2.1 s0 t0 sc0 ec0 (by omega)
  have hm := rCn_mv j1
  obtain ⟨d, r, rfl⟩ : ∃ d r, B = d :: r := by
    match B, hm with
    | [], hm => have e : y.2.2.2.1 x3.toInt = -1 := hm; omega
    | d :: r, _ => exact ⟨d, r, rfl⟩
  have l0 : y.2.2.2.1 x3.toInt = d := hm.1
  have l1 : d = x5.toInt := by omega
  have hd1 := (n3 d).mp (by rw [eL]; exact List.mem_append_right _ (List.mem_cons_of_mem _ List.mem_cons_self))
  have l3 : (d :: r).length = r.length + 1 := rfl
  have l4 := rNd_len (x6.toInt - 1).toNat (A ++ x3.toInt :: d :: r) (by rw [← eL]; exact n1) (fun c hc => by have := (n3 c).mp (by rw [eL]; exact hc); omega)
  rw [List.length_append, show (x3.toInt :: d :: r).length = r.length + 2 from rfl] at l4
  obtain ⟨x9, e9⟩ := rI32 (z := (r.length : Int)) (by omega) (by omega)
  have b9 : 0 ≤ x9.toInt := by omega
  have d9 : x9.toInt ≤ 301 := by omega
  have r0 : 0 ≤ (1 * x4.toInt + (-1 * x9.toInt + 0)) + -1 := by
    omega
  have r1 : 0 ≤ (1 * x6.toInt + (-1 * x5.toInt + 0)) + -1 := by
    omega
  have q0 : rB2 K n p 263 [rR x0, rI x1, rI x2, rI x5, rI x9] σ := ro2_263.mpr (by
    exact ⟨y, hT, A ++ [x3.toInt], r, by rw [List.append_assoc]; show rCn _ _ (A ++ x3.toInt :: x5.toInt :: r); rw [← l1]; exact j1, fun c hc => j2 c (by rw [List.append_assoc] at hc; rw [l1]; exact hc), by omega⟩)
  exact ⟨p, x9, fun _ => rfl, b9, d9, ⟨(fun q h => by cases h), fun q h => (by cases h), (aAllc ⟨_, rfl, r0⟩ (aAllc ⟨_, rfl, r1⟩ (fun f h => by cases h))), (aAllc ⟨_, rfl, (rF_b (r := 4213) (by decide) rfl).mpr q0⟩ (fun f h => by cases h))⟩, [], List.mem_cons_self, fun f h => (by cases h)⟩
theorem rw_raLn {K : Nat → Nat} {n : Nat} {JX : (Nat → jcell) → Prop} : aGho (rG K n) fa_T K n JX ag_raLn := by
  refine aGho_of ⟨rfl, rfl⟩ ?_
  intro p σ ρ hH hX hA hM0
  have hG := aAG_of hA.1 (fun i e v he hv => (hA.2 i e v he hv).1)
  clear hA
  obtain ⟨v0, v1, v2, v3, v4, v5, v6, v7, v8, v9, v10, rfl, g0, g1, g2, g3, g4, g5, g6, g7, g8, g9, g10⟩ := rA_11 hG
  clear hG
  obtain ⟨x0, rfl, b0, d0⟩ := rG_ref (by decide) g0
  obtain ⟨x1, rfl, b1, d1⟩ := rG_ref (by decide) g1
  obtain ⟨x2, rfl, b2, d2⟩ := aG_int g2
  dsimp only at b2 d2
  obtain ⟨x3, rfl, b3, d3⟩ := aG_int g3
  dsimp only at b3 d3
  obtain ⟨x4, rfl, b4, d4⟩ := aG_int g4
  dsimp only at b4 d4
  obtain ⟨x5, rfl, b5, d5⟩ := aG_int g5
  dsimp only at b5 d5
  obtain ⟨x6, rfl, b6, d6⟩ := aG_int g6
  dsimp only at b6 d6
  obtain ⟨x7, rfl, b7, d7⟩ := aG_int g7
  dsimp only at b7 d7
  obtain ⟨x8, rfl, b8, d8⟩ := aG_int g8
  dsimp only at b8 d8
  obtain ⟨x9, rfl, b9, d9⟩ := aG_int g9
  dsimp only at b9 d9
  obtain ⟨x10, rfl, b10, d10⟩ := aG_int g10
  dsimp only at b10 d10
  obtain ⟨m1, m2, m3, m4⟩ := hM0
  obtain ⟨T, hT⟩ := rTe_ex hH b0 d0
  obtain ⟨a0, c0, fs0, w0, e1, s0, t0, e4⟩ := m1 (0, 11, 1) (List.mem_of_getElem? (i := 0) rfl)
  obtain rfl : x0 = a0 := Sum.inl.inj (Option.some.inj (Sum.inr.inj (Sum.inr.inj (Option.some.inj (show some (rR x0) = some _ from e1)))))
  obtain rfl : rR x1 = w0 := Option.some.inj (show some (rR x1) = some w0 from e4)
  clear e1 e4
  obtain ⟨a, mc0, ty0, gc0, ic0, e1, sc0, jc0, e4, e5⟩ := m2 (1, ([(2, 301), (9, 1)], 0), 8) (List.mem_of_getElem? (i := 0) rfl)
  obtain rfl : x1 = a := Sum.inl.inj (Option.some.inj (Sum.inr.inj (Sum.inr.inj (Option.some.inj (show some (rR x1) = some _ from e1)))))
  obtain ⟨gc0, rfl⟩ : ∃ g, gc0 = .inl g := by
    rcases gc0 with g | g
    · exact ⟨g, rfl⟩
    · exact absurd (show some (rI x8) = some (.inr (.inl (g ic0))) from e5) (fun h => by cases h)
  have sc0 : σ x1 = .inl (ty0, mc0, .inl gc0) := sc0
  have ec0 : x8 = gc0 ic0 := Sum.inl.inj (Option.some.inj (show some (rI x8) = some _ from e5))
  have kc0 : (ic0 : Int) = (301 * x2.toInt + (1 * x9.toInt + 0)) + 0 := by
    obtain ⟨z, e6, e7⟩ := e4
    obtain rfl : (301 * x2.toInt + (1 * x9.toInt + 0)) = z := Option.some.inj (show some (301 * x2.toInt + (1 * x9.toInt + 0)) = some z from e6)
    exact e7
  clear e1 e4 e5
  have l0 : 0 ≤ (1 * x6.toInt + (-301 * x2.toInt + (-1 * x5.toInt + 0))) + 0 := by
    obtain ⟨z, e6, e7⟩ := m3 ([(6, 1), (2, -301), (5, -1)], 0) (List.mem_of_getElem? (i := 0) rfl)
    obtain rfl : (1 * x6.toInt + (-301 * x2.toInt + (-1 * x5.toInt + 0))) = z := Option.some.inj (show some (1 * x6.toInt + (-301 * x2.toInt + (-1 * x5.toInt + 0))) = some z from e6)
    exact e7
  have l1 : 0 ≤ (-1 * x6.toInt + (301 * x2.toInt + (1 * x5.toInt + 0))) + 0 := by
    obtain ⟨z, e6, e7⟩ := m3 ([(6, -1), (2, 301), (5, 1)], 0) (List.mem_of_getElem? (i := 1) rfl)
    obtain rfl : (-1 * x6.toInt + (301 * x2.toInt + (1 * x5.toInt + 0))) = z := Option.some.inj (show some (-1 * x6.toInt + (301 * x2.toInt + (1 * x5.toInt + 0))) = some z from e6)
    exact e7
  have l2 : 0 ≤ (1 * x7.toInt + (-301 * x2.toInt + (-1 * x9.toInt + 0))) + 0 := by
    obtain ⟨z, e6, e7⟩ := m3 ([(7, 1), (2, -301), (9, -1)], 0) (List.mem_of_getElem? (i := 2) rfl)
    obtain rfl : (1 * x7.toInt + (-301 * x2.toInt + (-1 * x9.toInt + 0))) = z := Option.some.inj (show some (1 * x7.toInt + (-301 * x2.toInt + (-1 * x9.toInt + 0))) = some z from e6)
    exact e7
  have l3 : 0 ≤ (-1 * x7.toInt + (301 * x2.toInt + (1 * x9.toInt + 0))) + 0 := by
    obtain ⟨z, e6, e7⟩ := m3 ([(7, -1), (2, 301), (9, 1)], 0) (List.mem_of_getElem? (i := 3) rfl)
    obtain rfl : (-1 * x7.toInt + (301 * x2.toInt + (1 * x9.toInt + 0))) = z := Option.some.inj (show some (-1 * x7.toInt + (301 * x2.toInt + (1 * x9.toInt + 0))) = some z from e6)
    exact e7
  have f0 : rB2 K n p 258 [rR x0, rI x2, rI x3, rI x4, rI x5] σ := by
    obtain ⟨w, e6, e7⟩ := m4 (4133, [0, 2, 3, 4, 5]) (List.mem_of_getElem? (i := 0) rfl)
    obtain rfl : [rR x0, rI x2, rI x3, rI x4, rI x5] = w := Option.some.inj (show some [rR x0, rI x2, rI x3, rI x4, rI x5] = some w from e6)
    exact (rF_b (r := 4133) (by decide) rfl).mp e7
  have f0 := ro2_258.mp f0
  have f1 : rB2 K n p 259 [rR x0, rI x2, rI x5, rI x3] σ := by
    obtain ⟨w, e6, e7⟩ := m4 (4148, [0, 2, 5, 3]) (List.mem_of_getElem? (i := 1) rfl)
    obtain rfl : [rR x0, rI x2, rI x5, rI x3] = w := Option.some.inj (show some [rR x0, rI x2, rI x5, rI x3] = some w from e6)
    exact (rF_b (r := 4148) (by decide) rfl).mp e7
  have f1 := ro2_259.mp f1
  have f2 : rB2 K n p 260 [rR x0, rI x2, rI x5, rI x4] σ := by
    obtain ⟨w, e6, e7⟩ := m4 (4164, [0, 2, 5, 4]) (List.mem_of_getElem? (i := 2) rfl)
    obtain rfl : [rR x0, rI x2, rI x5, rI x4] = w := Option.some.inj (show some [rR x0, rI x2, rI x5, rI x4] = some w from e6)
    exact (rF_b (r := 4164) (by decide) rfl).mp e7
  have f2 := ro2_260.mp f2
  have f3 : rB2 K n p 256 [rR x0, rI x6] σ := by
    obtain ⟨w, e6, e7⟩ := m4 (4098, [0, 6]) (List.mem_of_getElem? (i := 3) rfl)
    obtain rfl : [rR x0, rI x6] = w := Option.some.inj (show some [rR x0, rI x6] = some w from e6)
    exact (rF_b (r := 4098) (by decide) rfl).mp e7
  have f3 := ro2_256.mp f3
  have f4 : rB2 K n p 257 [rR x0, rI x6] σ := by
    obtain ⟨w, e6, e7⟩ := m4 (4114, [0, 6]) (List.mem_of_getElem? (i := 4) rfl)
    obtain rfl : [rR x0, rI x6] = w := Option.some.inj (show some [rR x0, rI x6] = some w from e6)
    exact (rF_b (r := 4114) (by decide) rfl).mp e7
  have f4 := ro2_257.mp f4
  have f5 : rB2 K n p 263 [rR x0, rI x2, rI x3, rI x9, rI x10] σ := by
    obtain ⟨w, e6, e7⟩ := m4 (4213, [0, 2, 3, 9, 10]) (List.mem_of_getElem? (i := 5) rfl)
    obtain rfl : [rR x0, rI x2, rI x3, rI x9, rI x10] = w := Option.some.inj (show some [rR x0, rI x2, rI x3, rI x9, rI x10] = some w from e6)
    exact (rF_b (r := 4213) (by decide) rfl).mp e7
  have f5 := ro2_263.mp f5
  clear m1 m2 m3 m4
  have q0 : rB2 K n p 261 [rR x0, rI x2, rI x5] (jup σ x1 (jsto (σ x1) x7.toNatClampNeg x5)) := ro2_261.mpr (by
    obtain ⟨y, hT, a1, a2, a3, a4, a5, a6, a7, a8⟩ := f0
    obtain ⟨-, g1, r1, e1⟩ := f1
    obtain ⟨-, g2, r2, e2⟩ := f2
    obtain ⟨-, g3, r3, e3⟩ := f3
    obtain ⟨-, g4, r4, e4⟩ := f4
    have hT0 := hT
    obtain ⟨⟨h1, q1, z1⟩, ⟨h2, q2, z2⟩, ⟨h3, q3, z3⟩, ⟨h4, q4, z4⟩, h5, h6, q5, q6, z5, z6⟩ := hT
    obtain rfl := rRo_u r1 q1
    obtain rfl := rRo_u r2 q2
    obtain rfl := rRo_u r3 q3
    obtain rfl := rRo_u r4 q4
    have ei : x6.toInt = 301 * x2.toInt + x5.toInt := by omega
    rw [ei] at e3 e4
    have hi : x7.toNatClampNeg = x7.toInt.toNat := rfl
    have u1 : y.1 (x5.toInt - 1 + 1) = x3.toInt := by
      rw [z1, show x5.toInt - 1 + 1 = x5.toInt by omega]
      exact e1
    have u2 : y.2.1 (x5.toInt - 1 + 1) = x4.toInt := by
      rw [z2, show x5.toInt - 1 + 1 = x5.toInt by omega]
      exact e2
    have u3 : y.2.2.1 (x5.toInt - 1 + 1) = -1 := by
      rw [z3, show x5.toInt - 1 + 1 = x5.toInt by omega]
      exact e3
    have u4 : y.2.2.2.1 (x5.toInt - 1 + 1) = -1 := by
      rw [z4, show x5.toInt - 1 + 1 = x5.toInt by omega]
      exact e4
    obtain ⟨y9, hT9, A, B, j1, j2, j3⟩ := f5
    obtain rfl := rTy_u hT0 hT9
    obtain ⟨L, n1, n2, n3, n4⟩ := rTr_L a4 a5 a6
    have hn : y.2.2.2.1 x9.toInt = -1 := by
      have e := rRo_c (i := ic0) r4 s0 t0 sc0 ec0
      rw [z4]
      show (g4 (301 * x2.toInt + x9.toInt).toNat).toInt = -1
      rw [show (301 * x2.toInt + x9.toInt).toNat = ic0 by omega, e]
      omega
    obtain rfl := rCn_nl j1 hn (fun d hd => by have := j2 d (List.mem_append_right _ (List.mem_cons_of_mem _ hd)); omega)
    have eL : L = A ++ [x9.toInt] := rCn_uq n2 j1 (fun c hc => by have := (n3 c).mp hc; omega) (fun c hc => by have := j2 c hc; omega)
    have h9m := (n3 x9.toInt).mp (by rw [eL]; exact List.mem_append_right _ List.mem_cons_self)
    have w4 : ∀ k, 0 ≤ k → k ≤ x5.toInt → rSc (upd g4 x7.toNatClampNeg x5) x2.toInt k = if k = x9.toInt then x5.toInt else y.2.2.2.1 k := fun k k0 k1 => by
      show ((upd g4 x7.toNatClampNeg x5) (301 * x2.toInt + k).toNat).toInt = _
      unfold upd
      by_cases ck : k = x9.toInt
      · rw [if_pos ck, if_pos (by rw [hi]; omega)]
      · rw [if_neg ck, if_neg (by rw [hi]; omega), z4]
        rfl
    have hch : ¬ y.2.2.1 x3.toInt = -1 := fun h => by
      rw [h, eL] at n2
      match A, n2 with
      | [], n2 => have e9 : -1 = x9.toInt := n2.1; omega
      | d :: r, n2 =>
        have e9 : -1 = d := n2.1
        have := j2 d List.mem_cons_self
        omega
    refine ⟨(y.1, y.2.1, y.2.2.1, rSc (upd g4 x7.toNatClampNeg x5) x2.toInt, y.2.2.2.2), ⟨⟨g1, rRo_o r1 (by omega) (by omega), z1⟩, ⟨g2, rRo_o r2 (by omega) (by omega), z2⟩, ⟨g3, rRo_o r3 (by omega) (by omega), z3⟩, ⟨_, rRo_up r4 s0 t0, rfl⟩, h5, h6, rRo_o q5 (by omega) (by omega), rRo_o q6 (by omega) (by omega), z5, z6⟩, a1, ?_, b5⟩
    rw [show x5.toInt = x5.toInt - 1 + 1 by omega]
    refine rTr_ap a4 (by omega) a5 a6 a7 a8 (fun _ _ _ => rfl) (fun _ _ _ => rfl) rfl u1 u2 u3 ?_ (fun k k0 k1 kn => rfl) ?_ (fun k k0 k1 => ?_)
    · dsimp only
      rw [w4 _ (by omega) (by omega), if_neg (by omega)]
      exact u4
    · dsimp only
      rw [if_neg hch]
    · dsimp only
      rw [w4 k k0 (by omega)]
      by_cases ck : k = x9.toInt
      · rw [if_pos ck, if_pos ⟨⟨by rw [ck]; exact h9m.2.2, by omega⟩, by rw [ck]; exact hn⟩]
        omega
      · rw [if_neg ck, if_neg]
        rintro ⟨⟨hp, h1k⟩, hz⟩
        have hm := (n3 k).mpr ⟨h1k, k1, hp⟩
        rw [eL] at hm
        exact ck (rCn_la j1 (fun d hd => by have := j2 d hd; omega) hm hz))
  exact ⟨p, fun _ => rfl, ⟨(fun q h => by cases h), fun q h => (by cases h), (fun f h => by cases h), (aAllc ⟨_, rfl, rF_p (r := 4179) (by decide) (by decide) q0⟩ (fun f h => by cases h))⟩, [], List.mem_cons_self, fun f h => (by cases h)⟩
theorem rw_raE {K : Nat → Nat} {n : Nat} {JX : (Nat → jcell) → Prop} : aGho (rG K n) fa_T K n JX ag_raE := by
  refine aGho_of ⟨rfl, rfl⟩ ?_
  intro p σ ρ hH hX hA hM0
  have hG := aAG_of hA.1 (fun i e v he hv => (hA.2 i e v he hv).1)
  clear hA
  obtain ⟨v0, v1, v2, rfl, g0, g1, g2⟩ := rA_3 hG
  clear hG
  obtain ⟨x0, rfl, b0, d0⟩ := rG_ref (by decide) g0
  obtain ⟨x1, rfl, b1, d1⟩ := aG_int g1
  dsimp only at b1 d1
  obtain ⟨x2, rfl, b2, d2⟩ := aG_int g2
  dsimp only at b2 d2
  obtain ⟨m1, m2, m3, m4⟩ := hM0
  obtain ⟨T, hT⟩ := rTe_ex hH b0 d0
  have f0 : rB2 K n p 261 [rR x0, rI x1, rI x2] σ := by
    obtain ⟨w, e6, e7⟩ := m4 (4179, [0, 1, 2]) (List.mem_of_getElem? (i := 0) rfl)
    obtain rfl : [rR x0, rI x1, rI x2] = w := Option.some.inj (show some [rR x0, rI x1, rI x2] = some w from e6)
    exact (rF_b (r := 4179) (by decide) rfl).mp e7
  have f0 := ro2_261.mp f0
  have f1 : rB2 K n p 262 [rR x0, rI x1, rI x2] σ := by
    obtain ⟨w, e6, e7⟩ := m4 (4195, [0, 1, 2]) (List.mem_of_getElem? (i := 1) rfl)
    obtain rfl : [rR x0, rI x1, rI x2] = w := Option.some.inj (show some [rR x0, rI x1, rI x2] = some w from e6)
    exact (rF_b (r := 4195) (by decide) rfl).mp e7
  have f1 := ro2_262.mp f1
  clear m1 m2 m3 m4
  have q0 : rB2 K n p 241 [rR x0, rI x1, rI x2] σ := ro2_241.mpr (by
    obtain ⟨y, hT, a1, a2, a3⟩ := f0
    obtain ⟨-, g, r, e⟩ := f1
    exact ⟨x2.toInt, y, ⟨hT, ⟨g, r, e⟩, a2⟩, by omega, by omega⟩)
  exact ⟨p, fun _ => rfl, ⟨(fun q h => by cases h), fun q h => (by cases h), (fun f h => by cases h), (aAllc ⟨_, rfl, (rF_b (r := 3859) (by decide) rfl).mpr q0⟩ (fun f h => by cases h))⟩, [], List.mem_cons_self, fun f h => (by cases h)⟩
theorem rw_rvSGn {K : Nat → Nat} {n : Nat} {JX : (Nat → jcell) → Prop} : aGho (rG K n) fa_T K n JX ag_rvSGn := by
  refine aGho_of ⟨rfl, rfl⟩ ?_
  intro p σ ρ hH hX hA hM0
  have hG := aAG_of hA.1 (fun i e v he hv => (hA.2 i e v he hv).1)
  clear hA
  obtain ⟨v0, rfl, g0⟩ := rA_1 hG
  clear hG
  obtain ⟨x0, rfl, b0, d0⟩ := aG_int g0
  dsimp only at b0 d0
  obtain ⟨m1, m2, m3, m4⟩ := hM0
  clear m1 m2 m3 m4
  have q0 : rB2 K n p 270 [rI x0] σ := ro2_270.mpr (by
    trivial)
  exact ⟨p, fun _ => rfl, ⟨(fun q h => by cases h), fun q h => (by cases h), (fun f h => by cases h), (aAllc ⟨_, rfl, (rF_b (r := 4321) (by decide) rfl).mpr q0⟩ (fun f h => by cases h))⟩, [], List.mem_cons_self, fun f h => (by cases h)⟩
theorem rw_rvSGm {K : Nat → Nat} {n : Nat} {JX : (Nat → jcell) → Prop} : aGho (rG K n) fa_T K n JX ag_rvSGm := by
  refine aGho_of ⟨rfl, rfl⟩ ?_
  intro p σ ρ hH hX hA hM0
  have hG := aAG_of hA.1 (fun i e v he hv => (hA.2 i e v he hv).1)
  clear hA
  obtain ⟨v0, rfl, g0⟩ := rA_1 hG
  clear hG
  obtain ⟨x0, rfl, b0, d0⟩ := aG_int g0
  dsimp only at b0 d0
  obtain ⟨m1, m2, m3, m4⟩ := hM0
  clear m1 m2 m3 m4
  have q0 : rB2 K n p 271 [rI x0] σ := ro2_271.mpr (by
    trivial)
  exact ⟨p, fun _ => rfl, ⟨(fun q h => by cases h), fun q h => (by cases h), (fun f h => by cases h), (aAllc ⟨_, rfl, (rF_b (r := 4337) (by decide) rfl).mpr q0⟩ (fun f h => by cases h))⟩, [], List.mem_cons_self, fun f h => (by cases h)⟩
theorem rw_rbP {K : Nat → Nat} {n : Nat} {JX : (Nat → jcell) → Prop} : aGho (rG K n) fa_T K n JX ag_rbP := by
  refine aGho_of ⟨rfl, rfl⟩ ?_
  intro p σ ρ hH hX hA hM0
  have hG := aAG_of hA.1 (fun i e v he hv => (hA.2 i e v he hv).1)
  clear hA
  obtain ⟨v0, v1, v2, v3, v4, rfl, g0, g1, g2, g3, g4⟩ := rA_5 hG
  clear hG
  obtain ⟨x0, rfl, b0, d0⟩ := rG_ref (by decide) g0
  obtain ⟨x1, rfl, b1, d1⟩ := aG_int g1
  dsimp only at b1 d1
  obtain ⟨x2, rfl, b2, d2⟩ := aG_int g2
  dsimp only at b2 d2
  obtain ⟨x3, rfl, b3, d3⟩ := aG_int g3
  dsimp only at b3 d3
  obtain ⟨x4, rfl, b4, d4⟩ := rG_ref (by decide) g4
  obtain ⟨m1, m2, m3, m4⟩ := hM0
  obtain ⟨T, hT⟩ := rTe_ex hH b0 d0
  obtain ⟨a0, c0, fs0, w0, e1, s0, t0, e4⟩ := m1 (0, 8, 4) (List.mem_of_getElem? (i := 0) rfl)
  obtain rfl : x0 = a0 := Sum.inl.inj (Option.some.inj (Sum.inr.inj (Sum.inr.inj (Option.some.inj (show some (rR x0) = some _ from e1)))))
  obtain rfl : rR x4 = w0 := Option.some.inj (show some (rR x4) = some w0 from e4)
  clear e1 e4
  obtain ⟨a, mc0, ty0, gc0, ic0, e1, sc0, jc0, e4, e5⟩ := m2 (4, ([(1, 301), (2, 1)], 0), 3) (List.mem_of_getElem? (i := 0) rfl)
  obtain rfl : x4 = a := Sum.inl.inj (Option.some.inj (Sum.inr.inj (Sum.inr.inj (Option.some.inj (show some (rR x4) = some _ from e1)))))
  obtain ⟨gc0, rfl⟩ : ∃ g, gc0 = .inl g := by
    rcases gc0 with g | g
    · exact ⟨g, rfl⟩
    · exact absurd (show some (rI x3) = some (.inr (.inl (g ic0))) from e5) (fun h => by cases h)
  have sc0 : σ x4 = .inl (ty0, mc0, .inl gc0) := sc0
  have ec0 : x3 = gc0 ic0 := Sum.inl.inj (Option.some.inj (show some (rI x3) = some _ from e5))
  have kc0 : (ic0 : Int) = (301 * x1.toInt + (1 * x2.toInt + 0)) + 0 := by
    obtain ⟨z, e6, e7⟩ := e4
    obtain rfl : (301 * x1.toInt + (1 * x2.toInt + 0)) = z := Option.some.inj (show some (301 * x1.toInt + (1 * x2.toInt + 0)) = some z from e6)
    exact e7
  clear e1 e4 e5
  have f0 : rB2 K n p 241 [rR x0, rI x1, rI x2] σ := by
    obtain ⟨w, e6, e7⟩ := m4 (3859, [0, 1, 2]) (List.mem_of_getElem? (i := 0) rfl)
    obtain rfl : [rR x0, rI x1, rI x2] = w := Option.some.inj (show some [rR x0, rI x1, rI x2] = some w from e6)
    exact (rF_b (r := 3859) (by decide) rfl).mp e7
  obtain ⟨C, y, hY, f0⟩ := ro2_241.mp f0
  clear m1 m2 m3 m4
  have y0 : y.1 x2.toInt = x3.toInt := rSc_c hY.1.1 s0 t0 sc0 ec0 (by omega)
  have hpr := hY.2.2.2.1 x2.toInt b2 f0.2
  rw [y0] at hpr
  have r0 : 0 ≤ (1 * x3.toInt + 0) + 0 := by
    omega
  have r1 : 0 ≤ (1 * x2.toInt + (-1 * x3.toInt + 0)) + -1 := by
    omega
  exact ⟨p, fun _ => rfl, ⟨(fun q h => by cases h), fun q h => (by cases h), (aAllc ⟨_, rfl, r0⟩ (aAllc ⟨_, rfl, r1⟩ (fun f h => by cases h))), (fun f h => by cases h)⟩, [], List.mem_cons_self, fun f h => (by cases h)⟩
theorem rw_rbN {K : Nat → Nat} {n : Nat} {JX : (Nat → jcell) → Prop} : aGho (rG K n) fa_T K n JX ag_rbN := by
  refine aGho_of ⟨rfl, rfl⟩ ?_
  intro p σ ρ hH hX hA hM0
  have hG := aAG_of hA.1 (fun i e v he hv => (hA.2 i e v he hv).1)
  clear hA
  obtain ⟨v0, v1, v2, v3, rfl, g0, g1, g2, g3⟩ := rA_4 hG
  clear hG
  obtain ⟨x0, rfl, b0, d0⟩ := rG_ref (by decide) g0
  obtain ⟨x1, rfl, b1, d1⟩ := aG_int g1
  dsimp only at b1 d1
  obtain ⟨x2, rfl, b2, d2⟩ := aG_int g2
  dsimp only at b2 d2
  obtain ⟨x3, rfl, b3, d3⟩ := aG_int g3
  dsimp only at b3 d3
  obtain ⟨m1, m2, m3, m4⟩ := hM0
  obtain ⟨T, hT⟩ := rTe_ex hH b0 d0
  have l0 : 0 ≤ (1 * x2.toInt + (-1 * x3.toInt + 0)) + 0 := by
    obtain ⟨z, e6, e7⟩ := m3 ([(2, 1), (3, -1)], 0) (List.mem_of_getElem? (i := 0) rfl)
    obtain rfl : (1 * x2.toInt + (-1 * x3.toInt + 0)) = z := Option.some.inj (show some (1 * x2.toInt + (-1 * x3.toInt + 0)) = some z from e6)
    exact e7
  have f0 : rB2 K n p 241 [rR x0, rI x1, rI x2] σ := by
    obtain ⟨w, e6, e7⟩ := m4 (3859, [0, 1, 2]) (List.mem_of_getElem? (i := 0) rfl)
    obtain rfl : [rR x0, rI x1, rI x2] = w := Option.some.inj (show some [rR x0, rI x1, rI x2] = some w from e6)
    exact (rF_b (r := 3859) (by decide) rfl).mp e7
  obtain ⟨C, y, hY, f0⟩ := ro2_241.mp f0
  clear m1 m2 m3 m4
  have q0 : rB2 K n p 241 [rR x0, rI x1, rI x3] σ := ro2_241.mpr ⟨C, y, hY, by
    have := f0.2
    omega⟩
  exact ⟨p, fun _ => rfl, ⟨(fun q h => by cases h), fun q h => (by cases h), (fun f h => by cases h), (aAllc ⟨_, rfl, (rF_b (r := 3859) (by decide) rfl).mpr q0⟩ (fun f h => by cases h))⟩, [], List.mem_cons_self, fun f h => (by cases h)⟩
theorem rw_rcIz {K : Nat → Nat} {n : Nat} {JX : (Nat → jcell) → Prop} : aGho (rG K n) fa_T K n JX ag_rcIz := by
  refine aGho_of ⟨rfl, rfl⟩ ?_
  intro p σ ρ hH hX hA hM0
  have hG := aAG_of hA.1 (fun i e v he hv => (hA.2 i e v he hv).1)
  clear hA
  obtain ⟨v0, v1, v2, rfl, g0, g1, g2⟩ := rA_3 hG
  clear hG
  obtain ⟨x0, rfl, b0, d0⟩ := rG_ref (by decide) g0
  obtain ⟨x1, rfl, b1, d1⟩ := aG_int g1
  dsimp only at b1 d1
  obtain ⟨x2, rfl, b2, d2⟩ := aG_int g2
  dsimp only at b2 d2
  obtain ⟨m1, m2, m3, m4⟩ := hM0
  obtain ⟨T, hT⟩ := rTe_ex hH b0 d0
  clear m1 m2 m3 m4
  have q0 : rB2 K n p 237 [rR x0, rI x1, rI x2] σ := ro2_237.mpr (by
    intro h
    omega)
  exact ⟨p, fun _ => rfl, ⟨(fun q h => by cases h), fun q h => (by cases h), (fun f h => by cases h), (aAllc ⟨_, rfl, (rF_b (r := 3795) (by decide) rfl).mpr q0⟩ (fun f h => by cases h))⟩, [], List.mem_cons_self, fun f h => (by cases h)⟩
theorem rw_rcIk {K : Nat → Nat} {n : Nat} {JX : (Nat → jcell) → Prop} : aGho (rG K n) fa_T K n JX ag_rcIk := by
  refine aGho_of ⟨rfl, rfl⟩ ?_
  intro p σ ρ hH hX hA hM0
  have hG := aAG_of hA.1 (fun i e v he hv => (hA.2 i e v he hv).1)
  clear hA
  obtain ⟨v0, v1, v2, v3, rfl, g0, g1, g2, g3⟩ := rA_4 hG
  clear hG
  obtain ⟨x0, rfl, b0, d0⟩ := rG_ref (by decide) g0
  obtain ⟨x1, rfl, b1, d1⟩ := aG_int g1
  dsimp only at b1 d1
  obtain ⟨x2, rfl, b2, d2⟩ := aG_int g2
  dsimp only at b2 d2
  obtain ⟨x3, rfl, b3, d3⟩ := aG_int g3
  dsimp only at b3 d3
  obtain ⟨m1, m2, m3, m4⟩ := hM0
  obtain ⟨T, hT⟩ := rTe_ex hH b0 d0
  have f0 : rB2 K n p 237 [rR x0, rI x1, rI x2] σ := by
    obtain ⟨w, e6, e7⟩ := m4 (3795, [0, 1, 2]) (List.mem_of_getElem? (i := 0) rfl)
    obtain rfl : [rR x0, rI x1, rI x2] = w := Option.some.inj (show some [rR x0, rI x1, rI x2] = some w from e6)
    exact (rF_b (r := 3795) (by decide) rfl).mp e7
  have f0 := ro2_237.mp f0
  clear m1 m2 m3 m4
  have q0 : rB2 K n p 237 [rR x0, rI x1, rI x3] σ := ro2_237.mpr (by
    exact fun _ => f0 (by omega))
  exact ⟨p, fun _ => rfl, ⟨(fun q h => by cases h), fun q h => (by cases h), (fun f h => by cases h), (aAllc ⟨_, rfl, (rF_b (r := 3795) (by decide) rfl).mpr q0⟩ (fun f h => by cases h))⟩, [], List.mem_cons_self, fun f h => (by cases h)⟩
theorem rw_rcIy {K : Nat → Nat} {n : Nat} {JX : (Nat → jcell) → Prop} : aGho (rG K n) fa_T K n JX ag_rcIy := by
  refine aGho_of ⟨rfl, rfl⟩ ?_
  intro p σ ρ hH hX hA hM0
  have hG := aAG_of hA.1 (fun i e v he hv => (hA.2 i e v he hv).1)
  clear hA
  obtain ⟨v0, v1, v2, v3, v4, v5, v6, rfl, g0, g1, g2, g3, g4, g5, g6⟩ := rA_7 hG
  clear hG
  obtain ⟨x0, rfl, b0, d0⟩ := rG_ref (by decide) g0
  obtain ⟨x1, rfl, b1, d1⟩ := aG_int g1
  dsimp only at b1 d1
  obtain ⟨x2, rfl, b2, d2⟩ := aG_int g2
  dsimp only at b2 d2
  obtain ⟨x3, rfl, b3, d3⟩ := aG_int g3
  dsimp only at b3 d3
  obtain ⟨x4, rfl, b4, d4⟩ := aG_int g4
  dsimp only at b4 d4
  obtain ⟨x5, rfl, b5, d5⟩ := aG_int g5
  dsimp only at b5 d5
  obtain ⟨x6, rfl, b6, d6⟩ := rG_ref (by decide) g6
  obtain ⟨m1, m2, m3, m4⟩ := hM0
  obtain ⟨T, hT⟩ := rTe_ex hH b0 d0
  obtain ⟨a0, c0, fs0, w0, e1, s0, t0, e4⟩ := m1 (0, 32, 6) (List.mem_of_getElem? (i := 0) rfl)
  obtain rfl : x0 = a0 := Sum.inl.inj (Option.some.inj (Sum.inr.inj (Sum.inr.inj (Option.some.inj (show some (rR x0) = some _ from e1)))))
  obtain rfl : rR x6 = w0 := Option.some.inj (show some (rR x6) = some w0 from e4)
  clear e1 e4
  obtain ⟨a1, c1, fs1, w1, e1, s1, t1, e4⟩ := m1 (0, 33, 4) (List.mem_of_getElem? (i := 1) rfl)
  obtain rfl : x0 = a1 := Sum.inl.inj (Option.some.inj (Sum.inr.inj (Sum.inr.inj (Option.some.inj (show some (rR x0) = some _ from e1)))))
  obtain rfl : rI x4 = w1 := Option.some.inj (show some (rI x4) = some w1 from e4)
  clear e1 e4
  obtain ⟨a, mc0, ty0, gc0, ic0, e1, sc0, jc0, e4, e5⟩ := m2 (6, ([(2, 1)], 0), 3) (List.mem_of_getElem? (i := 0) rfl)
  obtain rfl : x6 = a := Sum.inl.inj (Option.some.inj (Sum.inr.inj (Sum.inr.inj (Option.some.inj (show some (rR x6) = some _ from e1)))))
  obtain ⟨gc0, rfl⟩ : ∃ g, gc0 = .inl g := by
    rcases gc0 with g | g
    · exact ⟨g, rfl⟩
    · exact absurd (show some (rI x3) = some (.inr (.inl (g ic0))) from e5) (fun h => by cases h)
  have sc0 : σ x6 = .inl (ty0, mc0, .inl gc0) := sc0
  have ec0 : x3 = gc0 ic0 := Sum.inl.inj (Option.some.inj (show some (rI x3) = some _ from e5))
  have kc0 : (ic0 : Int) = (1 * x2.toInt + 0) + 0 := by
    obtain ⟨z, e6, e7⟩ := e4
    obtain rfl : (1 * x2.toInt + 0) = z := Option.some.inj (show some (1 * x2.toInt + 0) = some z from e6)
    exact e7
  clear e1 e4 e5
  have l0 : 0 ≤ (1 * x1.toInt + (-1 * x3.toInt + 0)) + 0 := by
    obtain ⟨z, e6, e7⟩ := m3 ([(1, 1), (3, -1)], 0) (List.mem_of_getElem? (i := 0) rfl)
    obtain rfl : (1 * x1.toInt + (-1 * x3.toInt + 0)) = z := Option.some.inj (show some (1 * x1.toInt + (-1 * x3.toInt + 0)) = some z from e6)
    exact e7
  have l1 : 0 ≤ (-1 * x1.toInt + (1 * x3.toInt + 0)) + 0 := by
    obtain ⟨z, e6, e7⟩ := m3 ([(1, -1), (3, 1)], 0) (List.mem_of_getElem? (i := 1) rfl)
    obtain rfl : (-1 * x1.toInt + (1 * x3.toInt + 0)) = z := Option.some.inj (show some (-1 * x1.toInt + (1 * x3.toInt + 0)) = some z from e6)
    exact e7
  have l2 : 0 ≤ (1 * x4.toInt + (-1 * x2.toInt + 0)) + -1 := by
    obtain ⟨z, e6, e7⟩ := m3 ([(4, 1), (2, -1)], -1) (List.mem_of_getElem? (i := 2) rfl)
    obtain rfl : (1 * x4.toInt + (-1 * x2.toInt + 0)) = z := Option.some.inj (show some (1 * x4.toInt + (-1 * x2.toInt + 0)) = some z from e6)
    exact e7
  clear m1 m2 m3 m4
  have q0 : rB2 K n p 237 [rR x0, rI x1, rI x5] σ := ro2_237.mpr (by
    intro _
    obtain ⟨g, r⟩ := rRo_ex (ko := 62) (f := 32) (kr := 85) (len := 2048) hH rfl rfl rfl (by decide) b0 d0
    have e := rRo_c (i := ic0) r s0 t0 sc0 ec0
    exact ⟨g, x4, r, ⟨b0, d0, _, _, s1, t1⟩, x2.toInt, b2, by omega, by rw [show x2.toInt.toNat = ic0 by omega, e]; omega⟩)
  exact ⟨p, fun _ => rfl, ⟨(fun q h => by cases h), fun q h => (by cases h), (fun f h => by cases h), (aAllc ⟨_, rfl, (rF_b (r := 3795) (by decide) rfl).mpr q0⟩ (fun f h => by cases h))⟩, [], List.mem_cons_self, fun f h => (by cases h)⟩
theorem rw_rcLG {K : Nat → Nat} {n : Nat} {JX : (Nat → jcell) → Prop} : aGho (rG K n) fa_T K n JX ag_rcLG := by
  refine aGho_of ⟨rfl, rfl⟩ ?_
  intro p σ ρ hH hX hA hM0
  have hG := aAG_of hA.1 (fun i e v he hv => (hA.2 i e v he hv).1)
  clear hA
  obtain ⟨v0, v1, v2, v3, v4, rfl, g0, g1, g2, g3, g4⟩ := rA_5 hG
  clear hG
  obtain ⟨x0, rfl, b0, d0⟩ := rG_ref (by decide) g0
  obtain ⟨x1, rfl, b1, d1⟩ := aG_int g1
  dsimp only at b1 d1
  obtain ⟨x2, rfl, b2, d2⟩ := aG_int g2
  dsimp only at b2 d2
  obtain ⟨x3, rfl, b3, d3⟩ := aG_int g3
  dsimp only at b3 d3
  obtain ⟨x4, rfl, b4, d4⟩ := aG_int g4
  dsimp only at b4 d4
  obtain ⟨m1, m2, m3, m4⟩ := hM0
  obtain ⟨T, hT⟩ := rTe_ex hH b0 d0
  have f0 : rB2 K n p 241 [rR x0, rI x1, rI x2] σ := by
    obtain ⟨w, e6, e7⟩ := m4 (3859, [0, 1, 2]) (List.mem_of_getElem? (i := 0) rfl)
    obtain rfl : [rR x0, rI x1, rI x2] = w := Option.some.inj (show some [rR x0, rI x1, rI x2] = some w from e6)
    exact (rF_b (r := 3859) (by decide) rfl).mp e7
  obtain ⟨C, y, hY, f0⟩ := ro2_241.mp f0
  have f1 : rB2 K n p 245 [rR x0, rI x1, rI x2] σ := by
    obtain ⟨w, e6, e7⟩ := m4 (3923, [0, 1, 2]) (List.mem_of_getElem? (i := 1) rfl)
    obtain rfl : [rR x0, rI x1, rI x2] = w := Option.some.inj (show some [rR x0, rI x1, rI x2] = some w from e6)
    exact (rF_b (r := 3923) (by decide) rfl).mp e7
  have f1 := ro2_245.mp f1
  have f2 : rB2 K n p 237 [rR x0, rI x3, rI x4] σ := by
    obtain ⟨w, e6, e7⟩ := m4 (3795, [0, 3, 4]) (List.mem_of_getElem? (i := 2) rfl)
    obtain rfl : [rR x0, rI x3, rI x4] = w := Option.some.inj (show some [rR x0, rI x3, rI x4] = some w from e6)
    exact (rF_b (r := 3795) (by decide) rfl).mp e7
  have f2 := ro2_237.mp f2
  clear m1 m2 m3 m4
  have q0 : rB2 K n p 266 [rR x0, rI x1, rI x2, rI x3] σ := ro2_266.mpr ⟨C, y, hY, by
    obtain ⟨pa, mo, q0, z, cc, v, p1, p2, p3, p4, p5, ⟨p6, p7, g, p8, p9⟩, p10⟩ := f1
    obtain ⟨g', c', i1, i2, j, j0, j1, j2⟩ := f2 (by omega)
    obtain rfl := rRo_u p8 i1
    cases rOb_u p6 i2
    have h := p9 j j0 j1
    rw [j2] at h
    have e1 := rRy9_u p1 hY.1.1
    have e2 := rRy9_u p2 hY.1.2.1
    have e3 := (rSt9_u p3 hY.1.2.2.2.2).1
    rw [e1, e2, e3] at h
    exact h⟩
  exact ⟨p, fun _ => rfl, ⟨(fun q h => by cases h), fun q h => (by cases h), (fun f h => by cases h), (aAllc ⟨_, rfl, (rF_b (r := 4260) (by decide) rfl).mpr q0⟩ (fun f h => by cases h))⟩, [], List.mem_cons_self, fun f h => (by cases h)⟩
theorem rw_rcNK {K : Nat → Nat} {n : Nat} {JX : (Nat → jcell) → Prop} : aGho (rG K n) fa_T K n JX ag_rcNK := by
  refine aGho_of ⟨rfl, rfl⟩ ?_
  intro p σ ρ hH hX hA hM0
  have hG := aAG_of hA.1 (fun i e v he hv => (hA.2 i e v he hv).1)
  clear hA
  obtain ⟨v0, v1, v2, rfl, g0, g1, g2⟩ := rA_3 hG
  clear hG
  obtain ⟨x0, rfl, b0, d0⟩ := rG_ref (by decide) g0
  obtain ⟨x1, rfl, b1, d1⟩ := aG_int g1
  dsimp only at b1 d1
  obtain ⟨x2, rfl, b2, d2⟩ := aG_int g2
  dsimp only at b2 d2
  obtain ⟨m1, m2, m3, m4⟩ := hM0
  obtain ⟨T, hT⟩ := rTe_ex hH b0 d0
  have f0 : rB2 K n p 238 [rR x0, rI x1, rI x2] σ := by
    obtain ⟨w, e6, e7⟩ := m4 (3811, [0, 1, 2]) (List.mem_of_getElem? (i := 0) rfl)
    obtain rfl : [rR x0, rI x1, rI x2] = w := Option.some.inj (show some [rR x0, rI x1, rI x2] = some w from e6)
    exact (rF_b (r := 3811) (by decide) rfl).mp e7
  obtain ⟨C, y, hY, f0⟩ := ro2_238.mp f0
  clear m1 m2 m3 m4
  have q0 : rB2 K n p 241 [rR x0, rI x1, rI x2] σ := ro2_241.mpr ⟨C, y, hY, by
    exact ⟨b2, f0 b2⟩⟩
  exact ⟨p, fun _ => rfl, ⟨(fun q h => by cases h), fun q h => (by cases h), (fun f h => by cases h), (aAllc ⟨_, rfl, (rF_b (r := 3859) (by decide) rfl).mpr q0⟩ (fun f h => by cases h))⟩, [], List.mem_cons_self, fun f h => (by cases h)⟩
theorem rw_rcC3 {K : Nat → Nat} {n : Nat} {JX : (Nat → jcell) → Prop} : aGho (rG K n) fa_T K n JX ag_rcC3 := by
  refine aGho_of ⟨rfl, rfl⟩ ?_
  intro p σ ρ hH hX hA hM0
  have hG := aAG_of hA.1 (fun i e v he hv => (hA.2 i e v he hv).1)
  clear hA
  obtain ⟨v0, v1, v2, v3, rfl, g0, g1, g2, g3⟩ := rA_4 hG
  clear hG
  obtain ⟨x0, rfl, b0, d0⟩ := rG_ref (by decide) g0
  obtain ⟨x1, rfl, b1, d1⟩ := aG_int g1
  dsimp only at b1 d1
  obtain ⟨x2, rfl, b2, d2⟩ := aG_int g2
  dsimp only at b2 d2
  obtain ⟨x3, rfl, b3, d3⟩ := rG_ref (by decide) g3
  obtain ⟨m1, m2, m3, m4⟩ := hM0
  obtain ⟨T, hT⟩ := rTe_ex hH b0 d0
  obtain ⟨a0, c0, fs0, w0, e1, s0, t0, e4⟩ := m1 (0, 7, 3) (List.mem_of_getElem? (i := 0) rfl)
  obtain rfl : x0 = a0 := Sum.inl.inj (Option.some.inj (Sum.inr.inj (Sum.inr.inj (Option.some.inj (show some (rR x0) = some _ from e1)))))
  obtain rfl : rR x3 = w0 := Option.some.inj (show some (rR x3) = some w0 from e4)
  clear e1 e4
  obtain ⟨a, mc0, ty0, gc0, ic0, e1, sc0, jc0, e4, e5⟩ := m2 (3, ([(1, 1)], 0), 2) (List.mem_of_getElem? (i := 0) rfl)
  obtain rfl : x3 = a := Sum.inl.inj (Option.some.inj (Sum.inr.inj (Sum.inr.inj (Option.some.inj (show some (rR x3) = some _ from e1)))))
  obtain ⟨gc0, rfl⟩ : ∃ g, gc0 = .inl g := by
    rcases gc0 with g | g
    · exact ⟨g, rfl⟩
    · exact absurd (show some (rI x2) = some (.inr (.inl (g ic0))) from e5) (fun h => by cases h)
  have sc0 : σ x3 = .inl (ty0, mc0, .inl gc0) := sc0
  have ec0 : x2 = gc0 ic0 := Sum.inl.inj (Option.some.inj (show some (rI x2) = some _ from e5))
  have kc0 : (ic0 : Int) = (1 * x1.toInt + 0) + 0 := by
    obtain ⟨z, e6, e7⟩ := e4
    obtain rfl : (1 * x1.toInt + 0) = z := Option.some.inj (show some (1 * x1.toInt + 0) = some z from e6)
    exact e7
  clear e1 e4 e5
  clear m1 m2 m3 m4
  have q0 : rB2 K n p 264 [rR x0, rI x1] σ := ro2_264.mpr (by
    obtain ⟨g, r⟩ := rRo_ex (ko := 62) (f := 7) (kr := 65) (len := 2) hH rfl rfl rfl (by decide) b0 d0
    have e := rRo_c (i := ic0) r s0 t0 sc0 ec0
    exact ⟨b1, g, r, by rw [show x1.toInt.toNat = ic0 by omega, e]; omega⟩)
  exact ⟨p, fun _ => rfl, ⟨(fun q h => by cases h), fun q h => (by cases h), (fun f h => by cases h), (aAllc ⟨_, rfl, (rF_b (r := 4226) (by decide) rfl).mpr q0⟩ (fun f h => by cases h))⟩, [], List.mem_cons_self, fun f h => (by cases h)⟩
theorem rw_rvTRh {K : Nat → Nat} {n : Nat} {JX : (Nat → jcell) → Prop} : aGho (rG K n) fa_T K n JX ag_rvTRh := by
  refine aGho_of ⟨rfl, rfl⟩ ?_
  intro p σ ρ hH hX hA hM0
  have hG := aAG_of hA.1 (fun i e v he hv => (hA.2 i e v he hv).1)
  clear hA
  obtain ⟨v0, rfl, g0⟩ := rA_1 hG
  clear hG
  obtain ⟨x0, rfl, b0, d0⟩ := aG_int g0
  dsimp only at b0 d0
  obtain ⟨m1, m2, m3, m4⟩ := hM0
  clear m1 m2 m3 m4
  have hd : (0 ≤ (1 * x0.toInt + 0) + 0 ∧ 0 ≤ (-1 * x0.toInt + 0) + 0) ∨ (0 ≤ (1 * x0.toInt + 0) + -1) := by
    omega
  rcases hd with ⟨w0, w1⟩ | w0
  · exact ⟨p, fun _ => rfl, ⟨(fun q h => by cases h), fun q h => (by cases h), (fun f h => by cases h), (fun f h => by cases h)⟩, _, List.mem_of_getElem? (i := 0) rfl, (aAllc ⟨_, rfl, w0⟩ (aAllc ⟨_, rfl, w1⟩ (fun f h => by cases h)))⟩
  · exact ⟨p, fun _ => rfl, ⟨(fun q h => by cases h), fun q h => (by cases h), (fun f h => by cases h), (fun f h => by cases h)⟩, _, List.mem_of_getElem? (i := 1) rfl, (aAllc ⟨_, rfl, w0⟩ (fun f h => by cases h))⟩
theorem rw_rdF {K : Nat → Nat} {n : Nat} {JX : (Nat → jcell) → Prop} : aGho (rG K n) fa_T K n JX ag_rdF := by
  refine aGho_of ⟨rfl, rfl⟩ ?_
  intro p σ ρ hH hX hA hM0
  have hG := aAG_of hA.1 (fun i e v he hv => (hA.2 i e v he hv).1)
  clear hA
  obtain ⟨v0, v1, v2, v3, v4, v5, v6, rfl, g0, g1, g2, g3, g4, g5, g6⟩ := rA_7 hG
  clear hG
  obtain ⟨x0, rfl, b0, d0⟩ := rG_ref (by decide) g0
  obtain ⟨x1, rfl, b1, d1⟩ := aG_int g1
  dsimp only at b1 d1
  obtain ⟨x2, rfl, b2, d2⟩ := aG_int g2
  dsimp only at b2 d2
  obtain ⟨x3, rfl, b3, d3⟩ := aG_int g3
  dsimp only at b3 d3
  obtain ⟨x4, rfl, b4, d4⟩ := aG_int g4
  dsimp only at b4 d4
  obtain ⟨x5, rfl, b5, d5⟩ := rG_ref (by decide) g5
  obtain ⟨x6, rfl, b6, d6⟩ := rG_ref (by decide) g6
  obtain ⟨m1, m2, m3, m4⟩ := hM0
  obtain ⟨T, hT⟩ := rTe_ex hH b0 d0
  obtain ⟨a0, c0, fs0, w0, e1, s0, t0, e4⟩ := m1 (0, 10, 5) (List.mem_of_getElem? (i := 0) rfl)
  obtain rfl : x0 = a0 := Sum.inl.inj (Option.some.inj (Sum.inr.inj (Sum.inr.inj (Option.some.inj (show some (rR x0) = some _ from e1)))))
  obtain rfl : rR x5 = w0 := Option.some.inj (show some (rR x5) = some w0 from e4)
  clear e1 e4
  obtain ⟨a1, c1, fs1, w1, e1, s1, t1, e4⟩ := m1 (0, 8, 6) (List.mem_of_getElem? (i := 1) rfl)
  obtain rfl : x0 = a1 := Sum.inl.inj (Option.some.inj (Sum.inr.inj (Sum.inr.inj (Option.some.inj (show some (rR x0) = some _ from e1)))))
  obtain rfl : rR x6 = w1 := Option.some.inj (show some (rR x6) = some w1 from e4)
  clear e1 e4
  obtain ⟨a, mc0, ty0, gc0, ic0, e1, sc0, jc0, e4, e5⟩ := m2 (5, ([(1, 301), (3, 1)], 0), 4) (List.mem_of_getElem? (i := 0) rfl)
  obtain rfl : x5 = a := Sum.inl.inj (Option.some.inj (Sum.inr.inj (Sum.inr.inj (Option.some.inj (show some (rR x5) = some _ from e1)))))
  obtain ⟨gc0, rfl⟩ : ∃ g, gc0 = .inl g := by
    rcases gc0 with g | g
    · exact ⟨g, rfl⟩
    · exact absurd (show some (rI x4) = some (.inr (.inl (g ic0))) from e5) (fun h => by cases h)
  have sc0 : σ x5 = .inl (ty0, mc0, .inl gc0) := sc0
  have ec0 : x4 = gc0 ic0 := Sum.inl.inj (Option.some.inj (show some (rI x4) = some _ from e5))
  have kc0 : (ic0 : Int) = (301 * x1.toInt + (1 * x3.toInt + 0)) + 0 := by
    obtain ⟨z, e6, e7⟩ := e4
    obtain rfl : (301 * x1.toInt + (1 * x3.toInt + 0)) = z := Option.some.inj (show some (301 * x1.toInt + (1 * x3.toInt + 0)) = some z from e6)
    exact e7
  clear e1 e4 e5
  obtain ⟨a, mc1, ty1, gc1, ic1, e1, sc1, jc1, e4, e5⟩ := m2 (6, ([(1, 301), (2, 1)], 0), 3) (List.mem_of_getElem? (i := 1) rfl)
  obtain rfl : x6 = a := Sum.inl.inj (Option.some.inj (Sum.inr.inj (Sum.inr.inj (Option.some.inj (show some (rR x6) = some _ from e1)))))
  obtain ⟨gc1, rfl⟩ : ∃ g, gc1 = .inl g := by
    rcases gc1 with g | g
    · exact ⟨g, rfl⟩
    · exact absurd (show some (rI x3) = some (.inr (.inl (g ic1))) from e5) (fun h => by cases h)
  have sc1 : σ x6 = .inl (ty1, mc1, .inl gc1) := sc1
  have ec1 : x3 = gc1 ic1 := Sum.inl.inj (Option.some.inj (show some (rI x3) = some _ from e5))
  have kc1 : (ic1 : Int) = (301 * x1.toInt + (1 * x2.toInt + 0)) + 0 := by
    obtain ⟨z, e6, e7⟩ := e4
    obtain rfl : (301 * x1.toInt + (1 * x2.toInt + 0)) = z := Option.some.inj (show some (301 * x1.toInt + (1 * x2.toInt + 0)) = some z from e6)
    exact e7
  clear e1 e4 e5
  have f0 : rB2 K n p 241 [rR x0, rI x1, rI x2] σ := by
    obtain ⟨w, e6, e7⟩ := m4 (3859, [0, 1, 2]) (List.mem_of_getElem? (i := 0) rfl)
    obtain rfl : [rR x0, rI x1, rI x2] = w := Option.some.inj (show some [rR x0, rI x1, rI x2] = some w from e6)
    exact (rF_b (r := 3859) (by decide) rfl).mp e7
  obtain ⟨C, y, hY, f0⟩ := ro2_241.mp f0
  clear m1 m2 m3 m4
  have y0 : y.2.2.1 x3.toInt = x4.toInt := rSc_c hY.1.2.2.1 s0 t0 sc0 ec0 (by omega)
  have y1 : y.1 x2.toInt = x3.toInt := rSc_c hY.1.1 s1 t1 sc1 ec1 (by omega)
  have hpr := hY.2.2.2.1 x2.toInt b2 f0.2
  obtain ⟨L, n1, n2, n3, n4⟩ := rTr_L hY.2.2 hpr.1 (by omega)
  have hm := (n3 x2.toInt).mpr ⟨b2, f0.2, rfl⟩
  have hF : 1 ≤ x4.toInt ∧ x4.toInt ≤ C := by
    rw [← y0, ← y1]
    match L, n2, n3, hm with
    | [], _, _, hm => cases hm
    | d :: r, n2, n3, _ =>
      rw [show y.2.2.1 (y.1 x2.toInt) = d from n2.1]
      have := (n3 d).mp List.mem_cons_self
      omega
  have r0 : 0 ≤ (1 * x4.toInt + 0) + -1 := by
    omega
  have q0 : rB2 K n p 276 [rR x0, rI x1, rI x2, rI x4] σ := ro2_276.mpr ⟨C, y, hY, by
    exact ⟨b2, f0.2, by rw [y1, y0]⟩⟩
  have q1 : rB2 K n p 241 [rR x0, rI x1, rI x4] σ := ro2_241.mpr ⟨C, y, hY, by
    exact ⟨by omega, hF.2⟩⟩
  exact ⟨p, fun _ => rfl, ⟨(fun q h => by cases h), fun q h => (by cases h), (aAllc ⟨_, rfl, r0⟩ (fun f h => by cases h)), (aAllc ⟨_, rfl, (rF_b (r := 4420) (by decide) rfl).mpr q0⟩ (aAllc ⟨_, rfl, (rF_b (r := 3859) (by decide) rfl).mpr q1⟩ (fun f h => by cases h)))⟩, [], List.mem_cons_self, fun f h => (by cases h)⟩
theorem rw_rdUP {K : Nat → Nat} {n : Nat} {JX : (Nat → jcell) → Prop} : aGho (rG K n) fa_T K n JX ag_rdUP := by
  refine aGho_of ⟨rfl, rfl⟩ ?_
  intro p σ ρ hH hX hA hM0
  have hG := aAG_of hA.1 (fun i e v he hv => (hA.2 i e v he hv).1)
  clear hA
  obtain ⟨v0, v1, v2, v3, v4, rfl, g0, g1, g2, g3, g4⟩ := rA_5 hG
  clear hG
  obtain ⟨x0, rfl, b0, d0⟩ := rG_ref (by decide) g0
  obtain ⟨x1, rfl, b1, d1⟩ := aG_int g1
  dsimp only at b1 d1
  obtain ⟨x2, rfl, b2, d2⟩ := aG_int g2
  dsimp only at b2 d2
  obtain ⟨x3, rfl, b3, d3⟩ := aG_int g3
  dsimp only at b3 d3
  obtain ⟨x4, rfl, b4, d4⟩ := rG_ref (by decide) g4
  obtain ⟨m1, m2, m3, m4⟩ := hM0
  obtain ⟨T, hT⟩ := rTe_ex hH b0 d0
  obtain ⟨a0, c0, fs0, w0, e1, s0, t0, e4⟩ := m1 (0, 8, 4) (List.mem_of_getElem? (i := 0) rfl)
  obtain rfl : x0 = a0 := Sum.inl.inj (Option.some.inj (Sum.inr.inj (Sum.inr.inj (Option.some.inj (show some (rR x0) = some _ from e1)))))
  obtain rfl : rR x4 = w0 := Option.some.inj (show some (rR x4) = some w0 from e4)
  clear e1 e4
  obtain ⟨a, mc0, ty0, gc0, ic0, e1, sc0, jc0, e4, e5⟩ := m2 (4, ([(1, 301), (2, 1)], 0), 3) (List.mem_of_getElem? (i := 0) rfl)
  obtain rfl : x4 = a := Sum.inl.inj (Option.some.inj (Sum.inr.inj (Sum.inr.inj (Option.some.inj (show some (rR x4) = some _ from e1)))))
  obtain ⟨gc0, rfl⟩ : ∃ g, gc0 = .inl g := by
    rcases gc0 with g | g
    · exact ⟨g, rfl⟩
    · exact absurd (show some (rI x3) = some (.inr (.inl (g ic0))) from e5) (fun h => by cases h)
  have sc0 : σ x4 = .inl (ty0, mc0, .inl gc0) := sc0
  have ec0 : x3 = gc0 ic0 := Sum.inl.inj (Option.some.inj (show some (rI x3) = some _ from e5))
  have kc0 : (ic0 : Int) = (301 * x1.toInt + (1 * x2.toInt + 0)) + 0 := by
    obtain ⟨z, e6, e7⟩ := e4
    obtain rfl : (301 * x1.toInt + (1 * x2.toInt + 0)) = z := Option.some.inj (show some (301 * x1.toInt + (1 * x2.toInt + 0)) = some z from e6)
    exact e7
  clear e1 e4 e5
  have f0 : rB2 K n p 241 [rR x0, rI x1, rI x2] σ := by
    obtain ⟨w, e6, e7⟩ := m4 (3859, [0, 1, 2]) (List.mem_of_getElem? (i := 0) rfl)
    obtain rfl : [rR x0, rI x1, rI x2] = w := Option.some.inj (show some [rR x0, rI x1, rI x2] = some w from e6)
    exact (rF_b (r := 3859) (by decide) rfl).mp e7
  obtain ⟨C, y, hY, f0⟩ := ro2_241.mp f0
  clear m1 m2 m3 m4
  have y0 : y.1 x2.toInt = x3.toInt := rSc_c hY.1.1 s0 t0 sc0 ec0 (by omega)
  have q0 : rB2 K n p 243 [rR x0, rI x1, rI x2, rI x3] σ := ro2_243.mpr ⟨C, y, hY, by
    exact y0⟩
  exact ⟨p, fun _ => rfl, ⟨(fun q h => by cases h), fun q h => (by cases h), (fun f h => by cases h), (aAllc ⟨_, rfl, (rF_b (r := 3892) (by decide) rfl).mpr q0⟩ (fun f h => by cases h))⟩, [], List.mem_cons_self, fun f h => (by cases h)⟩
theorem rw_rdk {K : Nat → Nat} {n : Nat} {JX : (Nat → jcell) → Prop} : aGho (rG K n) fa_T K n JX ag_rdk := by
  refine aGho_of ⟨rfl, rfl⟩ ?_
  intro p σ ρ hH hX hA hM0
  have hG := aAG_of hA.1 (fun i e v he hv => (hA.2 i e v he hv).1)
  clear hA
  obtain ⟨v0, v1, v2, v3, v4, v5, rfl, g0, g1, g2, g3, g4, g5⟩ := rA_6 hG
  clear hG
  obtain ⟨x0, rfl, b0, d0⟩ := rG_ref (by decide) g0
  obtain ⟨x1, rfl, b1, d1⟩ := aG_int g1
  dsimp only at b1 d1
  obtain ⟨x2, rfl, b2, d2⟩ := aG_int g2
  dsimp only at b2 d2
  obtain ⟨x3, rfl, b3, d3⟩ := aG_int g3
  dsimp only at b3 d3
  obtain ⟨x4, rfl, b4, d4⟩ := aG_int g4
  dsimp only at b4 d4
  obtain ⟨x5, rfl, b5, d5⟩ := rG_ref (by decide) g5
  obtain ⟨m1, m2, m3, m4⟩ := hM0
  obtain ⟨T, hT⟩ := rTe_ex hH b0 d0
  obtain ⟨a0, c0, fs0, w0, e1, s0, t0, e4⟩ := m1 (0, 7, 5) (List.mem_of_getElem? (i := 0) rfl)
  obtain rfl : x0 = a0 := Sum.inl.inj (Option.some.inj (Sum.inr.inj (Sum.inr.inj (Option.some.inj (show some (rR x0) = some _ from e1)))))
  obtain rfl : rR x5 = w0 := Option.some.inj (show some (rR x5) = some w0 from e4)
  clear e1 e4
  obtain ⟨a, mc0, ty0, gc0, ic0, e1, sc0, jc0, e4, e5⟩ := m2 (5, ([(1, 1)], 0), 4) (List.mem_of_getElem? (i := 0) rfl)
  obtain rfl : x5 = a := Sum.inl.inj (Option.some.inj (Sum.inr.inj (Sum.inr.inj (Option.some.inj (show some (rR x5) = some _ from e1)))))
  obtain ⟨gc0, rfl⟩ : ∃ g, gc0 = .inl g := by
    rcases gc0 with g | g
    · exact ⟨g, rfl⟩
    · exact absurd (show some (rI x4) = some (.inr (.inl (g ic0))) from e5) (fun h => by cases h)
  have sc0 : σ x5 = .inl (ty0, mc0, .inl gc0) := sc0
  have ec0 : x4 = gc0 ic0 := Sum.inl.inj (Option.some.inj (show some (rI x4) = some _ from e5))
  have kc0 : (ic0 : Int) = (1 * x1.toInt + 0) + 0 := by
    obtain ⟨z, e6, e7⟩ := e4
    obtain rfl : (1 * x1.toInt + 0) = z := Option.some.inj (show some (1 * x1.toInt + 0) = some z from e6)
    exact e7
  clear e1 e4 e5
  have l0 : 0 ≤ (1 * x4.toInt + (-1 * x3.toInt + 0)) + 0 := by
    obtain ⟨z, e6, e7⟩ := m3 ([(4, 1), (3, -1)], 0) (List.mem_of_getElem? (i := 0) rfl)
    obtain rfl : (1 * x4.toInt + (-1 * x3.toInt + 0)) = z := Option.some.inj (show some (1 * x4.toInt + (-1 * x3.toInt + 0)) = some z from e6)
    exact e7
  have f0 : rB2 K n p 241 [rR x0, rI x1, rI x2] σ := by
    obtain ⟨w, e6, e7⟩ := m4 (3859, [0, 1, 2]) (List.mem_of_getElem? (i := 0) rfl)
    obtain rfl : [rR x0, rI x1, rI x2] = w := Option.some.inj (show some [rR x0, rI x1, rI x2] = some w from e6)
    exact (rF_b (r := 3859) (by decide) rfl).mp e7
  obtain ⟨C, y, hY, f0⟩ := ro2_241.mp f0
  clear m1 m2 m3 m4
  obtain ⟨gC, rC, eC⟩ := hY.2.1
  have e0 := rRo_c (i := ic0) rC s0 t0 sc0 ec0
  rw [show ic0 = x1.toInt.toNat by omega, eC] at e0
  have q0 : rB2 K n p 241 [rR x0, rI x1, rI x3] σ := ro2_241.mpr ⟨C, y, hY, by
    omega⟩
  exact ⟨p, fun _ => rfl, ⟨(fun q h => by cases h), fun q h => (by cases h), (fun f h => by cases h), (aAllc ⟨_, rfl, (rF_b (r := 3859) (by decide) rfl).mpr q0⟩ (fun f h => by cases h))⟩, [], List.mem_cons_self, fun f h => (by cases h)⟩
theorem rw_rdB0 {K : Nat → Nat} {n : Nat} {JX : (Nat → jcell) → Prop} : aGho (rG K n) fa_T K n JX ag_rdB0 := by
  refine aGho_n1 (b := (0, 301)) rfl rfl ?_
  intro p σ ρ hH hX hA hM0
  have hG := aAG_of hA.1 (fun i e v he hv => (hA.2 i e v he hv).1)
  clear hA
  obtain ⟨v0, v1, v2, v3, rfl, g0, g1, g2, g3⟩ := rA_4 hG
  clear hG
  obtain ⟨x0, rfl, b0, d0⟩ := rG_ref (by decide) g0
  obtain ⟨x1, rfl, b1, d1⟩ := aG_int g1
  dsimp only at b1 d1
  obtain ⟨x2, rfl, b2, d2⟩ := aG_int g2
  dsimp only at b2 d2
  obtain ⟨x3, rfl, b3, d3⟩ := aG_int g3
  dsimp only at b3 d3
  obtain ⟨m1, m2, m3, m4⟩ := hM0
  obtain ⟨T, hT⟩ := rTe_ex hH b0 d0
  have f0 : rB2 K n p 276 [rR x0, rI x1, rI x2, rI x3] σ := by
    obtain ⟨w, e6, e7⟩ := m4 (4420, [0, 1, 2, 3]) (List.mem_of_getElem? (i := 0) rfl)
    obtain rfl : [rR x0, rI x1, rI x2, rI x3] = w := Option.some.inj (show some [rR x0, rI x1, rI x2, rI x3] = some w from e6)
    exact (rF_b (r := 4420) (by decide) rfl).mp e7
  obtain ⟨C, y, hY, f0⟩ := ro2_276.mp f0
  have f1 : rB2 K n p 225 [rI x2, rI x3] σ := by
    obtain ⟨w, e6, e7⟩ := m4 (3602, [2, 3]) (List.mem_of_getElem? (i := 1) rfl)
    obtain rfl : [rI x2, rI x3] = w := Option.some.inj (show some [rI x2, rI x3] = some w from e6)
    exact (rF_b (r := 3602) (by decide) rfl).mp e7
  have f1 := ro2_225.mp f1
  clear m1 m2 m3 m4
  have hpr := hY.2.2.2.1 x2.toInt b2 f0.2.1
  obtain ⟨L, n1, n2, n3, n4⟩ := rTr_L hY.2.2 hpr.1 (by omega)
  have hm := (n3 x2.toInt).mpr ⟨b2, f0.2.1, rfl⟩
  obtain ⟨B, D, eL⟩ : ∃ B D, L = x3.toInt :: (B ++ x2.toInt :: D) := by
    match L, n2, hm with
    | [], _, hm => cases hm
    | d :: r, n2, hm =>
      have e : y.2.2.1 (y.1 x2.toInt) = d := n2.1
      have e3 : d = x3.toInt := by rw [← e]; exact f0.2.2
      rcases List.mem_cons.mp hm with h | h
      · exact absurd (h.trans e3) f1
      · obtain ⟨B, D, rfl⟩ := List.append_of_mem h
        exact ⟨B, D, by rw [e3]⟩
  have l4 : L.length = B.length + D.length + 2 := by
    rw [eL, List.length_cons, List.length_append, List.length_cons]
    omega
  obtain ⟨x4, e4⟩ := rI32 (z := (B.length : Int)) (by omega) (by omega)
  have b4 : 0 ≤ x4.toInt := by omega
  have d4 : x4.toInt ≤ 301 := by omega
  have q0 : rB2 K n p 277 [rR x0, rI x1, rI x2, rI x3, rI x4] σ := ro2_277.mpr ⟨C, y, hY, by
    exact ⟨f0.1, f0.2.1, [], B, D, by rw [List.nil_append]; rw [← eL]; exact n2, fun c hc => by rw [List.nil_append, ← eL] at hc; have := (n3 c).mp hc; omega, by omega⟩⟩
  exact ⟨p, x4, fun _ => rfl, b4, d4, ⟨(fun q h => by cases h), fun q h => (by cases h), (fun f h => by cases h), (aAllc ⟨_, rfl, (rF_b (r := 4437) (by decide) rfl).mpr q0⟩ (fun f h => by cases h))⟩, [], List.mem_cons_self, fun f h => (by cases h)⟩
theorem rw_rdBn {K : Nat → Nat} {n : Nat} {JX : (Nat → jcell) → Prop} : aGho (rG K n) fa_T K n JX ag_rdBn := by
  refine aGho_n1 (b := (0, 301)) rfl rfl ?_
  intro p σ ρ hH hX hA hM0
  have hG := aAG_of hA.1 (fun i e v he hv => (hA.2 i e v he hv).1)
  clear hA
  obtain ⟨v0, v1, v2, v3, v4, v5, v6, rfl, g0, g1, g2, g3, g4, g5, g6⟩ := rA_7 hG
  clear hG
  obtain ⟨x0, rfl, b0, d0⟩ := rG_ref (by decide) g0
  obtain ⟨x1, rfl, b1, d1⟩ := aG_int g1
  dsimp only at b1 d1
  obtain ⟨x2, rfl, b2, d2⟩ := aG_int g2
  dsimp only at b2 d2
  obtain ⟨x3, rfl, b3, d3⟩ := aG_int g3
  dsimp only at b3 d3
  obtain ⟨x4, rfl, b4, d4⟩ := aG_int g4
  dsimp only at b4 d4
  obtain ⟨x5, rfl, b5, d5⟩ := aG_int g5
  dsimp only at b5 d5
  obtain ⟨x6, rfl, b6, d6⟩ := rG_ref (by decide) g6
  obtain ⟨m1, m2, m3, m4⟩ := hM0
  obtain ⟨T, hT⟩ := rTe_ex hH b0 d0
  obtain ⟨a0, c0, fs0, w0, e1, s0, t0, e4⟩ := m1 (0, 11, 6) (List.mem_of_getElem? (i := 0) rfl)
  obtain rfl : x0 = a0 := Sum.inl.inj (Option.some.inj (Sum.inr.inj (Sum.inr.inj (Option.some.inj (show some (rR x0) = some _ from e1)))))
  obtain rfl : rR x6 = w0 := Option.some.inj (show some (rR x6) = some w0 from e4)
  clear e1 e4
  obtain ⟨a, mc0, ty0, gc0, ic0, e1, sc0, jc0, e4, e5⟩ := m2 (6, ([(1, 301), (3, 1)], 0), 5) (List.mem_of_getElem? (i := 0) rfl)
  obtain rfl : x6 = a := Sum.inl.inj (Option.some.inj (Sum.inr.inj (Sum.inr.inj (Option.some.inj (show some (rR x6) = some _ from e1)))))
  obtain ⟨gc0, rfl⟩ : ∃ g, gc0 = .inl g := by
    rcases gc0 with g | g
    · exact ⟨g, rfl⟩
    · exact absurd (show some (rI x5) = some (.inr (.inl (g ic0))) from e5) (fun h => by cases h)
  have sc0 : σ x6 = .inl (ty0, mc0, .inl gc0) := sc0
  have ec0 : x5 = gc0 ic0 := Sum.inl.inj (Option.some.inj (show some (rI x5) = some _ from e5))
  have kc0 : (ic0 : Int) = (301 * x1.toInt + (1 * x3.toInt + 0)) + 0 := by
    obtain ⟨z, e6, e7⟩ := e4
    obtain rfl : (301 * x1.toInt + (1 * x3.toInt + 0)) = z := Option.some.inj (show some (301 * x1.toInt + (1 * x3.toInt + 0)) = some z from e6)
    exact e7
  clear e1 e4 e5
  have f0 : rB2 K n p 277 [rR x0, rI x1, rI x2, rI x3, rI x4] σ := by
    obtain ⟨w, e6, e7⟩ := m4 (4437, [0, 1, 2, 3, 4]) (List.mem_of_getElem? (i := 0) rfl)
    obtain rfl : [rR x0, rI x1, rI x2, rI x3, rI x4] = w := Option.some.inj (show some [rR x0, rI x1, rI x2, rI x3, rI x4] = some w from e6)
    exact (rF_b (r := 4437) (by decide) rfl).mp e7
  obtain ⟨C, y, hY, f0⟩ := ro2_277.mp f0
  have f1 : rB2 K n p 225 [rI x5, rI x2] σ := by
    obtain ⟨w, e6, e7⟩ := m4 (3602, [5, 2]) (List.mem_of_getElem? (i := 1) rfl)
    obtain rfl : [rI x5, rI x2] = w := Option.some.inj (show some [rI x5, rI x2] = some w from e6)
    exact (rF_b (r := 3602) (by decide) rfl).mp e7
  have f1 := ro2_225.mp f1
  clear m1 m2 m3 m4
  have y0 : y.2.2.2.1 x3.toInt = x5.toInt := rSc_c hY.1.2.2.2.1 s0 t0 sc0 ec0 (by omega)
  obtain ⟨k1, k2, A, B, D, k3, k4, k5⟩ := f0
  have hm := rCn_mv k3
  obtain ⟨d, r, rfl⟩ : ∃ d r, B = d :: r := by
    match B, hm with
    | [], hm =>
      have e : y.2.2.2.1 x3.toInt = x2.toInt := hm.1
      exact absurd (y0.symm.trans e) f1
    | d :: r, _ => exact ⟨d, r, rfl⟩
  have l0 : y.2.2.2.1 x3.toInt = d := hm.1
  have l1 : d = x5.toInt := by omega
  have hd1 := k4 d (List.mem_append_right _ (List.mem_cons_of_mem _ List.mem_cons_self))
  have l3 : (d :: r).length = r.length + 1 := rfl
  obtain ⟨x7, e7⟩ := rI32 (z := (r.length : Int)) (by omega) (by omega)
  have b7 : 0 ≤ x7.toInt := by omega
  have d7 : x7.toInt ≤ 301 := by omega
  have r0 : 0 ≤ (1 * x5.toInt + 0) + -1 := by
    omega
  have r1 : 0 ≤ (1 * x4.toInt + (-1 * x7.toInt + 0)) + -1 := by
    omega
  have q0 : rB2 K n p 277 [rR x0, rI x1, rI x2, rI x5, rI x7] σ := ro2_277.mpr ⟨C, y, hY, by
    exact ⟨k1, k2, A ++ [x3.toInt], r, D, by rw [List.append_assoc]; show rCn _ _ (A ++ x3.toInt :: x5.toInt :: (r ++ x2.toInt :: D)); rw [← l1]; exact k3, fun c hc => k4 c (by rw [List.append_assoc] at hc; rw [l1]; exact hc), by omega⟩⟩
  exact ⟨p, x7, fun _ => rfl, b7, d7, ⟨(fun q h => by cases h), fun q h => (by cases h), (aAllc ⟨_, rfl, r0⟩ (aAllc ⟨_, rfl, r1⟩ (fun f h => by cases h))), (aAllc ⟨_, rfl, (rF_b (r := 4437) (by decide) rfl).mpr q0⟩ (fun f h => by cases h))⟩, [], List.mem_cons_self, fun f h => (by cases h)⟩
theorem rw_rdNEu {K : Nat → Nat} {n : Nat} {JX : (Nat → jcell) → Prop} : aGho (rG K n) fa_T K n JX ag_rdNEu := by
  refine aGho_of ⟨rfl, rfl⟩ ?_
  intro p σ ρ hH hX hA hM0
  have hG := aAG_of hA.1 (fun i e v he hv => (hA.2 i e v he hv).1)
  clear hA
  obtain ⟨v0, v1, rfl, g0, g1⟩ := rA_2 hG
  clear hG
  obtain ⟨x0, rfl, b0, d0⟩ := aG_int g0
  dsimp only at b0 d0
  obtain ⟨x1, rfl, b1, d1⟩ := aG_int g1
  dsimp only at b1 d1
  obtain ⟨m1, m2, m3, m4⟩ := hM0
  have l0 : 0 ≤ (1 * x0.toInt + (-1 * x1.toInt + 0)) + -1 := by
    obtain ⟨z, e6, e7⟩ := m3 ([(0, 1), (1, -1)], -1) (List.mem_of_getElem? (i := 0) rfl)
    obtain rfl : (1 * x0.toInt + (-1 * x1.toInt + 0)) = z := Option.some.inj (show some (1 * x0.toInt + (-1 * x1.toInt + 0)) = some z from e6)
    exact e7
  clear m1 m2 m3 m4
  have q0 : rB2 K n p 225 [rI x0, rI x1] σ := ro2_225.mpr (by
    omega)
  exact ⟨p, fun _ => rfl, ⟨(fun q h => by cases h), fun q h => (by cases h), (fun f h => by cases h), (aAllc ⟨_, rfl, (rF_b (r := 3602) (by decide) rfl).mpr q0⟩ (fun f h => by cases h))⟩, [], List.mem_cons_self, fun f h => (by cases h)⟩
theorem rw_rdNEd {K : Nat → Nat} {n : Nat} {JX : (Nat → jcell) → Prop} : aGho (rG K n) fa_T K n JX ag_rdNEd := by
  refine aGho_of ⟨rfl, rfl⟩ ?_
  intro p σ ρ hH hX hA hM0
  have hG := aAG_of hA.1 (fun i e v he hv => (hA.2 i e v he hv).1)
  clear hA
  obtain ⟨v0, v1, rfl, g0, g1⟩ := rA_2 hG
  clear hG
  obtain ⟨x0, rfl, b0, d0⟩ := aG_int g0
  dsimp only at b0 d0
  obtain ⟨x1, rfl, b1, d1⟩ := aG_int g1
  dsimp only at b1 d1
  obtain ⟨m1, m2, m3, m4⟩ := hM0
  have l0 : 0 ≤ (-1 * x0.toInt + (1 * x1.toInt + 0)) + -1 := by
    obtain ⟨z, e6, e7⟩ := m3 ([(0, -1), (1, 1)], -1) (List.mem_of_getElem? (i := 0) rfl)
    obtain rfl : (-1 * x0.toInt + (1 * x1.toInt + 0)) = z := Option.some.inj (show some (-1 * x0.toInt + (1 * x1.toInt + 0)) = some z from e6)
    exact e7
  clear m1 m2 m3 m4
  have q0 : rB2 K n p 225 [rI x0, rI x1] σ := ro2_225.mpr (by
    omega)
  exact ⟨p, fun _ => rfl, ⟨(fun q h => by cases h), fun q h => (by cases h), (fun f h => by cases h), (aAllc ⟨_, rfl, (rF_b (r := 3602) (by decide) rfl).mpr q0⟩ (fun f h => by cases h))⟩, [], List.mem_cons_self, fun f h => (by cases h)⟩
theorem rw_rdS1 {K : Nat → Nat} {n : Nat} {JX : (Nat → jcell) → Prop} : aGho (rG K n) fa_T K n JX ag_rdS1 := by
  refine aGho_of ⟨rfl, rfl⟩ ?_
  intro p σ ρ hH hX hA hM0
  have hG := aAG_of hA.1 (fun i e v he hv => (hA.2 i e v he hv).1)
  clear hA
  obtain ⟨v0, v1, v2, v3, v4, v5, v6, v7, v8, v9, v10, rfl, g0, g1, g2, g3, g4, g5, g6, g7, g8, g9, g10⟩ := rA_11 hG
  clear hG
  obtain ⟨x0, rfl, b0, d0⟩ := rG_ref (by decide) g0
  obtain ⟨x1, rfl, b1, d1⟩ := rG_ref (by decide) g1
  obtain ⟨x2, rfl, b2, d2⟩ := aG_int g2
  dsimp only at b2 d2
  obtain ⟨x3, rfl, b3, d3⟩ := aG_int g3
  dsimp only at b3 d3
  obtain ⟨x4, rfl, b4, d4⟩ := aG_int g4
  dsimp only at b4 d4
  obtain ⟨x5, rfl, b5, d5⟩ := aG_int g5
  dsimp only at b5 d5
  obtain ⟨x6, rfl, b6, d6⟩ := aG_int g6
  dsimp only at b6 d6
  obtain ⟨x7, rfl, b7, d7⟩ := aG_int g7
  dsimp only at b7 d7
  obtain ⟨x8, rfl, b8, d8⟩ := aG_int g8
  dsimp only at b8 d8
  obtain ⟨x9, rfl, b9, d9⟩ := aG_int g9
  dsimp only at b9 d9
  obtain ⟨x10, rfl, b10, d10⟩ := aG_int g10
  dsimp only at b10 d10
  obtain ⟨m1, m2, m3, m4⟩ := hM0
  obtain ⟨T, hT⟩ := rTe_ex hH b0 d0
  obtain ⟨a0, c0, fs0, w0, e1, s0, t0, e4⟩ := m1 (0, 11, 1) (List.mem_of_getElem? (i := 0) rfl)
  obtain rfl : x0 = a0 := Sum.inl.inj (Option.some.inj (Sum.inr.inj (Sum.inr.inj (Option.some.inj (show some (rR x0) = some _ from e1)))))
  obtain rfl : rR x1 = w0 := Option.some.inj (show some (rR x1) = some w0 from e4)
  clear e1 e4
  obtain ⟨a, mc0, ty0, gc0, ic0, e1, sc0, jc0, e4, e5⟩ := m2 (1, ([(2, 301), (6, 1)], 0), 8) (List.mem_of_getElem? (i := 0) rfl)
  obtain rfl : x1 = a := Sum.inl.inj (Option.some.inj (Sum.inr.inj (Sum.inr.inj (Option.some.inj (show some (rR x1) = some _ from e1)))))
  obtain ⟨gc0, rfl⟩ : ∃ g, gc0 = .inl g := by
    rcases gc0 with g | g
    · exact ⟨g, rfl⟩
    · exact absurd (show some (rI x8) = some (.inr (.inl (g ic0))) from e5) (fun h => by cases h)
  have sc0 : σ x1 = .inl (ty0, mc0, .inl gc0) := sc0
  have ec0 : x8 = gc0 ic0 := Sum.inl.inj (Option.some.inj (show some (rI x8) = some _ from e5))
  have kc0 : (ic0 : Int) = (301 * x2.toInt + (1 * x6.toInt + 0)) + 0 := by
    obtain ⟨z, e6, e7⟩ := e4
    obtain rfl : (301 * x2.toInt + (1 * x6.toInt + 0)) = z := Option.some.inj (show some (301 * x2.toInt + (1 * x6.toInt + 0)) = some z from e6)
    exact e7
  clear e1 e4 e5
  obtain ⟨a, mc1, ty1, gc1, ic1, e1, sc1, jc1, e4, e5⟩ := m2 (1, ([(2, 301), (3, 1)], 0), 9) (List.mem_of_getElem? (i := 1) rfl)
  obtain rfl : x1 = a := Sum.inl.inj (Option.some.inj (Sum.inr.inj (Sum.inr.inj (Option.some.inj (show some (rR x1) = some _ from e1)))))
  obtain ⟨gc1, rfl⟩ : ∃ g, gc1 = .inl g := by
    rcases gc1 with g | g
    · exact ⟨g, rfl⟩
    · exact absurd (show some (rI x9) = some (.inr (.inl (g ic1))) from e5) (fun h => by cases h)
  have sc1 : σ x1 = .inl (ty1, mc1, .inl gc1) := sc1
  have ec1 : x9 = gc1 ic1 := Sum.inl.inj (Option.some.inj (show some (rI x9) = some _ from e5))
  have kc1 : (ic1 : Int) = (301 * x2.toInt + (1 * x3.toInt + 0)) + 0 := by
    obtain ⟨z, e6, e7⟩ := e4
    obtain rfl : (301 * x2.toInt + (1 * x3.toInt + 0)) = z := Option.some.inj (show some (301 * x2.toInt + (1 * x3.toInt + 0)) = some z from e6)
    exact e7
  clear e1 e4 e5
  have l0 : 0 ≤ (1 * x8.toInt + (-1 * x3.toInt + 0)) + 0 := by
    obtain ⟨z, e6, e7⟩ := m3 ([(8, 1), (3, -1)], 0) (List.mem_of_getElem? (i := 0) rfl)
    obtain rfl : (1 * x8.toInt + (-1 * x3.toInt + 0)) = z := Option.some.inj (show some (1 * x8.toInt + (-1 * x3.toInt + 0)) = some z from e6)
    exact e7
  have l1 : 0 ≤ (-1 * x8.toInt + (1 * x3.toInt + 0)) + 0 := by
    obtain ⟨z, e6, e7⟩ := m3 ([(8, -1), (3, 1)], 0) (List.mem_of_getElem? (i := 1) rfl)
    obtain rfl : (-1 * x8.toInt + (1 * x3.toInt + 0)) = z := Option.some.inj (show some (-1 * x8.toInt + (1 * x3.toInt + 0)) = some z from e6)
    exact e7
  have l2 : 0 ≤ (1 * x10.toInt + (-301 * x2.toInt + (-1 * x6.toInt + 0))) + 0 := by
    obtain ⟨z, e6, e7⟩ := m3 ([(10, 1), (2, -301), (6, -1)], 0) (List.mem_of_getElem? (i := 2) rfl)
    obtain rfl : (1 * x10.toInt + (-301 * x2.toInt + (-1 * x6.toInt + 0))) = z := Option.some.inj (show some (1 * x10.toInt + (-301 * x2.toInt + (-1 * x6.toInt + 0))) = some z from e6)
    exact e7
  have l3 : 0 ≤ (-1 * x10.toInt + (301 * x2.toInt + (1 * x6.toInt + 0))) + 0 := by
    obtain ⟨z, e6, e7⟩ := m3 ([(10, -1), (2, 301), (6, 1)], 0) (List.mem_of_getElem? (i := 3) rfl)
    obtain rfl : (-1 * x10.toInt + (301 * x2.toInt + (1 * x6.toInt + 0))) = z := Option.some.inj (show some (-1 * x10.toInt + (301 * x2.toInt + (1 * x6.toInt + 0))) = some z from e6)
    exact e7
  have f0 : rB2 K n p 241 [rR x0, rI x2, rI x3] σ := by
    obtain ⟨w, e6, e7⟩ := m4 (3859, [0, 2, 3]) (List.mem_of_getElem? (i := 0) rfl)
    obtain rfl : [rR x0, rI x2, rI x3] = w := Option.some.inj (show some [rR x0, rI x2, rI x3] = some w from e6)
    exact (rF_b (r := 3859) (by decide) rfl).mp e7
  obtain ⟨C, y, hY, f0⟩ := ro2_241.mp f0
  have f1 : rB2 K n p 243 [rR x0, rI x2, rI x3, rI x4] σ := by
    obtain ⟨w, e6, e7⟩ := m4 (3892, [0, 2, 3, 4]) (List.mem_of_getElem? (i := 1) rfl)
    obtain rfl : [rR x0, rI x2, rI x3, rI x4] = w := Option.some.inj (show some [rR x0, rI x2, rI x3, rI x4] = some w from e6)
    exact (rF_b (r := 3892) (by decide) rfl).mp e7
  obtain ⟨C9, y9, h9, f1⟩ := ro2_243.mp f1
  obtain ⟨rfl, rfl⟩ := rTY_u hY h9
  clear h9
  have f2 : rB2 K n p 276 [rR x0, rI x2, rI x3, rI x5] σ := by
    obtain ⟨w, e6, e7⟩ := m4 (4420, [0, 2, 3, 5]) (List.mem_of_getElem? (i := 2) rfl)
    obtain rfl : [rR x0, rI x2, rI x3, rI x5] = w := Option.some.inj (show some [rR x0, rI x2, rI x3, rI x5] = some w from e6)
    exact (rF_b (r := 4420) (by decide) rfl).mp e7
  obtain ⟨C9, y9, h9, f2⟩ := ro2_276.mp f2
  obtain ⟨rfl, rfl⟩ := rTY_u hY h9
  clear h9
  have f3 : rB2 K n p 277 [rR x0, rI x2, rI x3, rI x6, rI x7] σ := by
    obtain ⟨w, e6, e7⟩ := m4 (4437, [0, 2, 3, 6, 7]) (List.mem_of_getElem? (i := 3) rfl)
    obtain rfl : [rR x0, rI x2, rI x3, rI x6, rI x7] = w := Option.some.inj (show some [rR x0, rI x2, rI x3, rI x6, rI x7] = some w from e6)
    exact (rF_b (r := 4437) (by decide) rfl).mp e7
  obtain ⟨C9, y9, h9, f3⟩ := ro2_277.mp f3
  obtain ⟨rfl, rfl⟩ := rTY_u hY h9
  clear h9
  clear m1 m2 m3 m4
  have y0 : y.2.2.2.1 x6.toInt = x8.toInt := rSc_c hY.1.2.2.2.1 s0 t0 sc0 ec0 (by omega)
  have y1 : y.2.2.2.1 x3.toInt = x9.toInt := rSc_c hY.1.2.2.2.1 s0 t0 sc1 ec1 (by omega)
  have hne : ¬ x5.toInt = x3.toInt := fun h => by
    obtain ⟨k1, k2, A, B, D, k3, k4, k5⟩ := f3
    have hpr := hY.2.2.2.1 x3.toInt b3 k2
    obtain ⟨L, n1, n2, n3, n4⟩ := rTr_L hY.2.2 hpr.1 (by omega)
    have eL : L = A ++ x6.toInt :: (B ++ x3.toInt :: D) := rCn_uq n2 k3 (fun c hc => by have := (n3 c).mp hc; omega) (fun c hc => by have := k4 c hc; omega)
    rw [eL] at n1
    have hf := f2.2.2
    rw [h] at hf
    match A, k3, n1 with
    | [], k3, n1 =>
      have e : y.2.2.1 (y.1 x3.toInt) = x6.toInt := k3.1
      have n5 := (List.nodup_cons.mp n1).1
      exact n5 (by rw [← e, hf]; exact List.mem_append_right _ List.mem_cons_self)
    | a :: A, k3, n1 =>
      have e : y.2.2.1 (y.1 x3.toInt) = a := k3.1
      have n5 := (List.nodup_cons.mp n1).1
      exact n5 (by rw [← e, hf]; exact List.mem_append_right _ (List.mem_cons_of_mem _ (List.mem_append_right _ List.mem_cons_self)))
  have q0 : rB2 K n p 278 [rR x0, rI x2, rI x3, rI x4, rI x5, rI x6] (jup σ x1 (jsto (σ x1) x10.toNatClampNeg x9)) := ro2_278.mpr (by
    have yb : y.2.2.2.1 x6.toInt = x8.toInt := y0
    have yh : y.2.2.2.1 x3.toInt = x9.toInt := y1
    obtain ⟨k1, k2, A, B, D, k3, k4, k5⟩ := f3
    have hm := rCn_mv k3
    have eB : B = [] := by
      match B, hm, k3 with
      | [], _, _ => rfl
      | d :: r, hm, k3 =>
        exfalso
        have e : y.2.2.2.1 x6.toInt = d := hm.1
        have hpr := hY.2.2.2.1 x3.toInt b3 k2
        obtain ⟨L, n1, n2, n3, n4⟩ := rTr_L hY.2.2 hpr.1 (by omega)
        have eL : L = A ++ x6.toInt :: (d :: r ++ x3.toInt :: D) := rCn_uq n2 k3 (fun c hc => by have := (n3 c).mp hc; omega) (fun c hc => by have := k4 c hc; omega)
        rw [eL] at n1
        have n5 := (List.nodup_append.mp n1).2.1
        have n6 := (List.nodup_cons.mp n5).2
        have n7 := (List.nodup_cons.mp n6).1
        have e9 : d = x3.toInt := by omega
        exact n7 (by rw [e9]; exact List.mem_append_right _ List.mem_cons_self)
    subst eB
    rw [List.nil_append] at k3 k4
    obtain ⟨hT, hC, hTr⟩ := hY
    obtain ⟨⟨h1, q1, z1⟩, ⟨h2, q2, z2⟩, ⟨h3, q3, z3⟩, ⟨h4, q4, z4⟩, h5, h6, q5, q6, z5, z6⟩ := hT
    obtain ⟨gC, rC, eC⟩ := hC
    have hi : x10.toNatClampNeg = x10.toInt.toNat := rfl
    have w4 : ∀ k, 0 ≤ k → k ≤ C → rSc (upd h4 x10.toNatClampNeg x9) x2.toInt k = if k = x6.toInt then x9.toInt else y.2.2.2.1 k := fun k k0 k1 => by
      show ((upd h4 x10.toNatClampNeg x9) (301 * x2.toInt + k).toNat).toInt = _
      unfold upd
      by_cases ck : k = x6.toInt
      · rw [if_pos ck, if_pos (by rw [hi]; omega)]
      · rw [if_neg ck, if_neg (by rw [hi]; omega), z4]
        rfl
    refine ⟨C, (y.1, y.2.1, y.2.2.1, rSc (upd h4 x10.toNatClampNeg x9) x2.toInt, y.2.2.2.2), y.2.2.2.1, ⟨⟨h1, rRo_o q1 (by omega) (by omega), z1⟩, ⟨h2, rRo_o q2 (by omega) (by omega), z2⟩, ⟨h3, rRo_o q3 (by omega) (by omega), z3⟩, ⟨_, rRo_up q4 s0 t0, rfl⟩, h5, h6, rRo_o q5 (by omega) (by omega), rRo_o q6 (by omega) (by omega), z5, z6⟩, ⟨gC, rRo_o rC (by omega) (by omega), eC⟩, hTr, b3, k2, f1, by show y.2.2.1 x4.toInt = _; rw [← f1]; exact f2.2.2, hne, ⟨A, D, by show rCn _ (y.2.2.1 x4.toInt) _; rw [← f1]; exact k3, k4⟩, fun k k0 k1 => ?_⟩
    dsimp only
    rw [w4 k k0 k1, yh])
  exact ⟨p, fun _ => rfl, ⟨(fun q h => by cases h), fun q h => (by cases h), (fun f h => by cases h), (aAllc ⟨_, rfl, rF_p (r := 4454) (by decide) (by decide) q0⟩ (fun f h => by cases h))⟩, [], List.mem_cons_self, fun f h => (by cases h)⟩
theorem rw_rdS2 {K : Nat → Nat} {n : Nat} {JX : (Nat → jcell) → Prop} : aGho (rG K n) fa_T K n JX ag_rdS2 := by
  refine aGho_of ⟨rfl, rfl⟩ ?_
  intro p σ ρ hH hX hA hM0
  have hG := aAG_of hA.1 (fun i e v he hv => (hA.2 i e v he hv).1)
  clear hA
  obtain ⟨v0, v1, v2, v3, v4, v5, v6, v7, rfl, g0, g1, g2, g3, g4, g5, g6, g7⟩ := rA_8 hG
  clear hG
  obtain ⟨x0, rfl, b0, d0⟩ := rG_ref (by decide) g0
  obtain ⟨x1, rfl, b1, d1⟩ := rG_ref (by decide) g1
  obtain ⟨x2, rfl, b2, d2⟩ := aG_int g2
  dsimp only at b2 d2
  obtain ⟨x3, rfl, b3, d3⟩ := aG_int g3
  dsimp only at b3 d3
  obtain ⟨x4, rfl, b4, d4⟩ := aG_int g4
  dsimp only at b4 d4
  obtain ⟨x5, rfl, b5, d5⟩ := aG_int g5
  dsimp only at b5 d5
  obtain ⟨x6, rfl, b6, d6⟩ := aG_int g6
  dsimp only at b6 d6
  obtain ⟨x7, rfl, b7, d7⟩ := aG_int g7
  dsimp only at b7 d7
  obtain ⟨m1, m2, m3, m4⟩ := hM0
  obtain ⟨T, hT⟩ := rTe_ex hH b0 d0
  obtain ⟨a0, c0, fs0, w0, e1, s0, t0, e4⟩ := m1 (0, 11, 1) (List.mem_of_getElem? (i := 0) rfl)
  obtain rfl : x0 = a0 := Sum.inl.inj (Option.some.inj (Sum.inr.inj (Sum.inr.inj (Option.some.inj (show some (rR x0) = some _ from e1)))))
  obtain rfl : rR x1 = w0 := Option.some.inj (show some (rR x1) = some w0 from e4)
  clear e1 e4
  have l0 : 0 ≤ (1 * x7.toInt + (-301 * x2.toInt + (-1 * x3.toInt + 0))) + 0 := by
    obtain ⟨z, e6, e7⟩ := m3 ([(7, 1), (2, -301), (3, -1)], 0) (List.mem_of_getElem? (i := 0) rfl)
    obtain rfl : (1 * x7.toInt + (-301 * x2.toInt + (-1 * x3.toInt + 0))) = z := Option.some.inj (show some (1 * x7.toInt + (-301 * x2.toInt + (-1 * x3.toInt + 0))) = some z from e6)
    exact e7
  have l1 : 0 ≤ (-1 * x7.toInt + (301 * x2.toInt + (1 * x3.toInt + 0))) + 0 := by
    obtain ⟨z, e6, e7⟩ := m3 ([(7, -1), (2, 301), (3, 1)], 0) (List.mem_of_getElem? (i := 1) rfl)
    obtain rfl : (-1 * x7.toInt + (301 * x2.toInt + (1 * x3.toInt + 0))) = z := Option.some.inj (show some (-1 * x7.toInt + (301 * x2.toInt + (1 * x3.toInt + 0))) = some z from e6)
    exact e7
  have f0 : rB2 K n p 278 [rR x0, rI x2, rI x3, rI x4, rI x5, rI x6] σ := by
    obtain ⟨w, e6, e7⟩ := m4 (4454, [0, 2, 3, 4, 5, 6]) (List.mem_of_getElem? (i := 0) rfl)
    obtain rfl : [rR x0, rI x2, rI x3, rI x4, rI x5, rI x6] = w := Option.some.inj (show some [rR x0, rI x2, rI x3, rI x4, rI x5, rI x6] = some w from e6)
    exact (rF_b (r := 4454) (by decide) rfl).mp e7
  have f0 := ro2_278.mp f0
  clear m1 m2 m3 m4
  have q0 : rB2 K n p 279 [rR x0, rI x2, rI x3, rI x4, rI x5, rI x6] (jup σ x1 (jsto (σ x1) x7.toNatClampNeg x5)) := ro2_279.mpr (by
    obtain ⟨C, y, nx, hT, hC, hTr, k1, k2, k3, k4, k5, ⟨A, B, k6, k7⟩, k9⟩ := f0
    obtain ⟨⟨h1, q1, z1⟩, ⟨h2, q2, z2⟩, ⟨h3, q3, z3⟩, ⟨h4, q4, z4⟩, h5, h6, q5, q6, z5, z6⟩ := hT
    obtain ⟨gC, rC, eC⟩ := hC
    have hi : x7.toNatClampNeg = x7.toInt.toNat := rfl
    have w4 : ∀ k, 0 ≤ k → k ≤ C → rSc (upd h4 x7.toNatClampNeg x5) x2.toInt k = if k = x3.toInt then x5.toInt else y.2.2.2.1 k := fun k k0 k1 => by
      show ((upd h4 x7.toNatClampNeg x5) (301 * x2.toInt + k).toNat).toInt = _
      unfold upd
      by_cases ck : k = x3.toInt
      · rw [if_pos ck, if_pos (by rw [hi]; omega)]
      · rw [if_neg ck, if_neg (by rw [hi]; omega), z4]
        rfl
    refine ⟨C, (y.1, y.2.1, y.2.2.1, rSc (upd h4 x7.toNatClampNeg x5) x2.toInt, y.2.2.2.2), nx, ⟨⟨h1, rRo_o q1 (by omega) (by omega), z1⟩, ⟨h2, rRo_o q2 (by omega) (by omega), z2⟩, ⟨h3, rRo_o q3 (by omega) (by omega), z3⟩, ⟨_, rRo_up q4 s0 t0, rfl⟩, h5, h6, rRo_o q5 (by omega) (by omega), rRo_o q6 (by omega) (by omega), z5, z6⟩, ⟨gC, rRo_o rC (by omega) (by omega), eC⟩, hTr, k1, k2, k3, k4, k5, ⟨A, B, k6, k7⟩, fun k k0 k1 => ?_⟩
    dsimp only
    rw [w4 k k0 k1]
    by_cases ck : k = x3.toInt
    · rw [if_pos ck, if_pos ck]
    · rw [if_neg ck, if_neg ck, k9 k k0 k1])
  exact ⟨p, fun _ => rfl, ⟨(fun q h => by cases h), fun q h => (by cases h), (fun f h => by cases h), (aAllc ⟨_, rfl, rF_p (r := 4470) (by decide) (by decide) q0⟩ (fun f h => by cases h))⟩, [], List.mem_cons_self, fun f h => (by cases h)⟩
theorem rw_rdS3 {K : Nat → Nat} {n : Nat} {JX : (Nat → jcell) → Prop} : aGho (rG K n) fa_T K n JX ag_rdS3 := by
  refine aGho_of ⟨rfl, rfl⟩ ?_
  intro p σ ρ hH hX hA hM0
  have hG := aAG_of hA.1 (fun i e v he hv => (hA.2 i e v he hv).1)
  clear hA
  obtain ⟨v0, v1, v2, v3, v4, v5, v6, v7, rfl, g0, g1, g2, g3, g4, g5, g6, g7⟩ := rA_8 hG
  clear hG
  obtain ⟨x0, rfl, b0, d0⟩ := rG_ref (by decide) g0
  obtain ⟨x1, rfl, b1, d1⟩ := rG_ref (by decide) g1
  obtain ⟨x2, rfl, b2, d2⟩ := aG_int g2
  dsimp only at b2 d2
  obtain ⟨x3, rfl, b3, d3⟩ := aG_int g3
  dsimp only at b3 d3
  obtain ⟨x4, rfl, b4, d4⟩ := aG_int g4
  dsimp only at b4 d4
  obtain ⟨x5, rfl, b5, d5⟩ := aG_int g5
  dsimp only at b5 d5
  obtain ⟨x6, rfl, b6, d6⟩ := aG_int g6
  dsimp only at b6 d6
  obtain ⟨x7, rfl, b7, d7⟩ := aG_int g7
  dsimp only at b7 d7
  obtain ⟨m1, m2, m3, m4⟩ := hM0
  obtain ⟨T, hT⟩ := rTe_ex hH b0 d0
  obtain ⟨a0, c0, fs0, w0, e1, s0, t0, e4⟩ := m1 (0, 10, 1) (List.mem_of_getElem? (i := 0) rfl)
  obtain rfl : x0 = a0 := Sum.inl.inj (Option.some.inj (Sum.inr.inj (Sum.inr.inj (Option.some.inj (show some (rR x0) = some _ from e1)))))
  obtain rfl : rR x1 = w0 := Option.some.inj (show some (rR x1) = some w0 from e4)
  clear e1 e4
  have l0 : 0 ≤ (1 * x7.toInt + (-301 * x2.toInt + (-1 * x4.toInt + 0))) + 0 := by
    obtain ⟨z, e6, e7⟩ := m3 ([(7, 1), (2, -301), (4, -1)], 0) (List.mem_of_getElem? (i := 0) rfl)
    obtain rfl : (1 * x7.toInt + (-301 * x2.toInt + (-1 * x4.toInt + 0))) = z := Option.some.inj (show some (1 * x7.toInt + (-301 * x2.toInt + (-1 * x4.toInt + 0))) = some z from e6)
    exact e7
  have l1 : 0 ≤ (-1 * x7.toInt + (301 * x2.toInt + (1 * x4.toInt + 0))) + 0 := by
    obtain ⟨z, e6, e7⟩ := m3 ([(7, -1), (2, 301), (4, 1)], 0) (List.mem_of_getElem? (i := 1) rfl)
    obtain rfl : (-1 * x7.toInt + (301 * x2.toInt + (1 * x4.toInt + 0))) = z := Option.some.inj (show some (-1 * x7.toInt + (301 * x2.toInt + (1 * x4.toInt + 0))) = some z from e6)
    exact e7
  have f0 : rB2 K n p 279 [rR x0, rI x2, rI x3, rI x4, rI x5, rI x6] σ := by
    obtain ⟨w, e6, e7⟩ := m4 (4470, [0, 2, 3, 4, 5, 6]) (List.mem_of_getElem? (i := 0) rfl)
    obtain rfl : [rR x0, rI x2, rI x3, rI x4, rI x5, rI x6] = w := Option.some.inj (show some [rR x0, rI x2, rI x3, rI x4, rI x5, rI x6] = some w from e6)
    exact (rF_b (r := 4470) (by decide) rfl).mp e7
  have f0 := ro2_279.mp f0
  clear m1 m2 m3 m4
  have q0 : rB2 K n p 241 [rR x0, rI x2, rI x3] (jup σ x1 (jsto (σ x1) x7.toNatClampNeg x3)) := ro2_241.mpr (by
    obtain ⟨C, y, nx, hT, hC, hTr, k1, k2, k3, k4, k5, ⟨A, B, k6, k7⟩, k9⟩ := f0
    obtain ⟨⟨h1, q1, z1⟩, ⟨h2, q2, z2⟩, ⟨h3, q3, z3⟩, ⟨h4, q4, z4⟩, h5, h6, q5, q6, z5, z6⟩ := hT
    obtain ⟨gC, rC, eC⟩ := hC
    have hi : x7.toNatClampNeg = x7.toInt.toNat := rfl
    have w3 : ∀ k, 0 ≤ k → k ≤ C → rSc (upd h3 x7.toNatClampNeg x3) x2.toInt k = if k = x4.toInt then x3.toInt else y.2.2.1 k := fun k k0 k1 => by
      show ((upd h3 x7.toNatClampNeg x3) (301 * x2.toInt + k).toNat).toInt = _
      unfold upd
      by_cases ck : k = x4.toInt
      · rw [if_pos ck, if_pos (by rw [hi]; omega)]
      · rw [if_neg ck, if_neg (by rw [hi]; omega), z3]
        rfl
    refine ⟨C, (y.1, y.2.1, rSc (upd h3 x7.toNatClampNeg x3) x2.toInt, y.2.2.2.1, y.2.2.2.2), ⟨⟨⟨h1, rRo_o q1 (by omega) (by omega), z1⟩, ⟨h2, rRo_o q2 (by omega) (by omega), z2⟩, ⟨_, rRo_up q3 s0 t0, rfl⟩, ⟨h4, rRo_o q4 (by omega) (by omega), z4⟩, h5, h6, rRo_o q5 (by omega) (by omega), rRo_o q6 (by omega) (by omega), z5, z6⟩, ⟨gC, rRo_o rC (by omega) (by omega), eC⟩, ?_⟩, by omega, k2⟩
    have k6' : rCn nx (y.2.2.1 (y.1 x3.toInt)) (A ++ x6.toInt :: x3.toInt :: B) := by rw [k3]; exact k6
    have k4' : y.2.2.1 (y.1 x3.toInt) = x5.toInt := by rw [k3]; exact k4
    refine rTr_ld (y := (y.1, y.2.1, y.2.2.1, nx, y.2.2.2.2)) hTr k1 k2 (fun h => k5 (k4'.symm.trans h)) k6' (fun c hc => by have := k7 c hc; omega) rfl rfl rfl (fun k k0 k1 => ?_) (fun k k0 k1 => ?_)
    · dsimp only
      rw [w3 k k0 k1, k3]
    · dsimp only
      rw [k9 k k0 k1, k4'])
  exact ⟨p, fun _ => rfl, ⟨(fun q h => by cases h), fun q h => (by cases h), (fun f h => by cases h), (aAllc ⟨_, rfl, rF_p (r := 3859) (by decide) (by decide) q0⟩ (fun f h => by cases h))⟩, [], List.mem_cons_self, fun f h => (by cases h)⟩
end
