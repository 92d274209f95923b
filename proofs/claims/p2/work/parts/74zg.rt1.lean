/-! the reference's tree: chains of siblings, depths -/
def rCn (nx : Int → Int) : Int → List Int → Prop
  | x, [] => x = -1
  | x, c :: r => x = c ∧ rCn nx (nx c) r
theorem rCn_uq {nx : Int → Int} : ∀ {L L' : List Int} {x : Int}, rCn nx x L → rCn nx x L' → (∀ c ∈ L, 0 ≤ c) → (∀ c ∈ L', 0 ≤ c) → L = L'
  | [], [], _, _, _, _, _ => rfl
  | [], c :: r, x, h1, h2, _, h4 => by
    have := h4 c List.mem_cons_self
    have e1 : x = -1 := h1
    have e2 : x = c := h2.1
    omega
  | c :: r, [], x, h1, h2, h3, _ => by
    have := h3 c List.mem_cons_self
    have e1 : x = c := h1.1
    have e2 : x = -1 := h2
    omega
  | c :: r, c' :: r', x, h1, h2, h3, h4 => by
    have e : c = c' := h1.1.symm.trans h2.1
    subst e
    rw [rCn_uq h1.2 h2.2 (fun d hd => h3 d (List.mem_cons_of_mem _ hd)) (fun d hd => h4 d (List.mem_cons_of_mem _ hd))]
theorem rCn_cg {nx nx' : Int → Int} : ∀ {L : List Int} {x : Int}, (∀ c ∈ L, nx' c = nx c) → rCn nx x L → rCn nx' x L
  | [], _, _, h => h
  | c :: r, _, he, h => ⟨h.1, by rw [he c List.mem_cons_self]; exact rCn_cg (fun d hd => he d (List.mem_cons_of_mem _ hd)) h.2⟩
theorem rNd_len : ∀ (N : Nat) (L : List Int), L.Nodup → (∀ c ∈ L, 1 ≤ c ∧ c ≤ (N : Int)) → L.length ≤ N := by
  intro N
  induction N with
  | zero =>
    intro L _ h
    cases L with
    | nil => exact Nat.le_refl _
    | cons c r => have := h c List.mem_cons_self; omega
  | succ N ih =>
    intro L hn h
    by_cases hm : ((N + 1 : Nat) : Int) ∈ L
    · have h1 : (L.erase ((N + 1 : Nat) : Int)).length = L.length - 1 := List.length_erase_of_mem hm
      have h2 : (L.erase ((N + 1 : Nat) : Int)).length ≤ N := by
        refine ih _ (hn.erase _) (fun c hc => ?_)
        have h3 := (List.Nodup.mem_erase_iff hn).mp hc
        have h4 := h c h3.2
        have h5 : ¬ c = ((N + 1 : Nat) : Int) := h3.1
        omega
      have h6 : 1 ≤ L.length := List.length_pos_of_mem hm
      omega
    · have := ih L hn (fun c hc => by
        have h4 := h c hc
        have h5 : ¬ c = ((N + 1 : Nat) : Int) := fun e => hm (e ▸ hc)
        omega)
      omega
theorem rCn_app {nx nx' : Int → Int} {N : Int} : ∀ {L : List Int} {x y : Int}, rCn nx x L → L.Nodup → (∀ c ∈ L, 0 ≤ c) → (∀ c ∈ L, ¬ nx c = -1 → nx' c = nx c) → (∀ c ∈ L, nx c = -1 → nx' c = N) → nx' N = -1 → (x = -1 → y = N) → (¬ x = -1 → y = x) → rCn nx' y (L ++ [N])
  | [], x, y, h, _, _, _, _, h3, h4, _ => by
    have e : x = -1 := h
    exact ⟨h4 e, h3⟩
  | c :: r, x, y, h, hn, hb, h1, h2, h3, h4, h5 => by
    have e : x = c := h.1
    have hc := hb c List.mem_cons_self
    have hn2 := (List.nodup_cons.mp hn).2
    refine ⟨by rw [h5 (by omega)]; exact e, ?_⟩
    refine rCn_app (x := nx c) h.2 hn2 (fun d hd => hb d (List.mem_cons_of_mem _ hd)) (fun d hd => h1 d (List.mem_cons_of_mem _ hd)) (fun d hd => h2 d (List.mem_cons_of_mem _ hd)) h3 (fun e0 => h2 c List.mem_cons_self e0) (fun e0 => ?_)
    rw [h1 c List.mem_cons_self e0]
theorem rCn_rem {nx nx' : Int → Int} {b n : Int} {B : List Int} : ∀ {A : List Int} {x : Int}, rCn nx x (A ++ b :: n :: B) → (∀ c ∈ A, nx' c = nx c) → (nx' b = nx n) → (∀ c ∈ B, nx' c = nx c) → rCn nx' x (A ++ b :: B)
  | [], x, h, _, h2, h3 => ⟨h.1, by rw [h2]; exact rCn_cg h3 h.2.2⟩
  | c :: A, x, h, h1, h2, h3 => ⟨h.1, by rw [h1 c List.mem_cons_self]; exact rCn_rem h.2 (fun d hd => h1 d (List.mem_cons_of_mem _ hd)) h2 h3⟩
/-- what is counted on the way up -/
def rRec {α : Type} (pa : Int → Int) (z : α) (f : Int → α → α) : Nat → Int → α
  | 0, _ => z
  | n + 1, k => if k ≤ 0 then z else f k (rRec pa z f n (pa k))
theorem rRec_f {α : Type} {pa : Int → Int} {C : Int} (h : ∀ k, 1 ≤ k → k ≤ C → 0 ≤ pa k ∧ pa k < k) {z : α} {f : Int → α → α} : ∀ (n m : Nat) (k : Int), k ≤ C → k ≤ n → k ≤ m → rRec pa z f n k = rRec pa z f m k
  | 0, 0, _, _, _, _ => rfl
  | 0, m + 1, k, _, h1, _ => by
    show z = if k ≤ 0 then z else _
    rw [if_pos (by omega)]
  | n + 1, 0, k, _, _, h2 => by
    show (if k ≤ 0 then z else _) = z
    rw [if_pos (by omega)]
  | n + 1, m + 1, k, hC, h1, h2 => by
    show (if k ≤ 0 then z else f k (rRec pa z f n (pa k))) = if k ≤ 0 then z else f k (rRec pa z f m (pa k))
    by_cases c : k ≤ 0
    · rw [if_pos c, if_pos c]
    · have := h k (by omega) hC
      rw [if_neg c, if_neg c, rRec_f h n m (pa k) (by omega) (by omega) (by omega)]
theorem rRec_s {α : Type} {pa : Int → Int} {C : Int} (hC : C ≤ 300) (h : ∀ k, 1 ≤ k → k ≤ C → 0 ≤ pa k ∧ pa k < k) {z : α} {f : Int → α → α} {k : Int} (k0 : 1 ≤ k) (k1 : k ≤ C) : rRec pa z f 301 k = f k (rRec pa z f 301 (pa k)) := by
  have := h k k0 k1
  show (if k ≤ 0 then z else f k (rRec pa z f 300 (pa k))) = _
  rw [if_neg (by omega), rRec_f h 300 301 (pa k) (by omega) (by omega) (by omega)]
theorem rRec_0 {α : Type} {pa : Int → Int} {z : α} {f : Int → α → α} : rRec pa z f 301 0 = z := by
  show (if (0 : Int) ≤ 0 then z else _) = z
  rw [if_pos (by omega)]
theorem rRec_cg {α : Type} {pa pa' : Int → Int} {C : Int} (h : ∀ k, 1 ≤ k → k ≤ C → 0 ≤ pa k ∧ pa k < k) {z : α} {f f' : Int → α → α} (hp : ∀ k, 1 ≤ k → k ≤ C → pa' k = pa k) (hf : ∀ k, 1 ≤ k → k ≤ C → f' k = f k) : ∀ (n : Nat) (k : Int), k ≤ C → rRec pa' z f' n k = rRec pa z f n k
  | 0, _, _ => rfl
  | n + 1, k, hk => by
    show (if k ≤ 0 then z else f' k (rRec pa' z f' n (pa' k))) = if k ≤ 0 then z else f k (rRec pa z f n (pa k))
    by_cases c : k ≤ 0
    · rw [if_pos c, if_pos c]
    · have := h k (by omega) hk
      rw [if_neg c, if_neg c, hp k (by omega) hk, hf k (by omega) hk, rRec_cg h hp hf n (pa k) (by omega)]
theorem rInd {pa : Int → Int} {C : Int} (h : ∀ k, 1 ≤ k → k ≤ C → 0 ≤ pa k ∧ pa k < k) {P : Int → Prop} (h0 : P 0) (hs : ∀ k, 1 ≤ k → k ≤ C → P (pa k) → P k) : ∀ k, 0 ≤ k → k ≤ C → P k := by
  have key : ∀ (m : Nat) (k : Int), 0 ≤ k → k ≤ m → k ≤ C → P k := by
    intro m
    induction m with
    | zero =>
      intro k k0 k1 _
      rw [show k = 0 by omega]
      exact h0
    | succ m ih =>
      intro k k0 k1 k2
      by_cases c : k = 0
      · rw [c]; exact h0
      · have := h k (by omega) k2
        exact hs k (by omega) k2 (ih (pa k) (by omega) (by omega) (by omega))
  intro k k0 k1
  exact key k.toNat k k0 (by omega) k1
/-- a tree: parents, moves, first children, next siblings, the position and the number at the root -/
abbrev rY : Type := (Int → Int) × (Int → Int) × (Int → Int) × (Int → Int) × rQ × Int
abbrev rPo3 (pa mo : Int → Int) (q0 : rQ) (k : Int) : rQ := rRec pa q0 (fun k q => rMk q (mo k)) 301 k
abbrev rPo (y : rY) (k : Int) : rQ := rPo3 y.1 y.2.1 y.2.2.2.2.1 k
def rTc (C : Int) (pa ch nx : Int → Int) : Prop := ∃ L : Int → List Int, ∀ k, 0 ≤ k → k ≤ C → (L k).Nodup ∧ rCn nx (ch k) (L k) ∧ (∀ c, c ∈ L k ↔ 1 ≤ c ∧ c ≤ C ∧ pa c = k)
def rPrs (C : Int) (pa : Int → Int) : Prop := ∀ k, 1 ≤ k → k ≤ C → 0 ≤ pa k ∧ pa k < k
def rTr (C : Int) (y : rY) : Prop := (0 ≤ C ∧ C ≤ 300 ∧ 0 ≤ y.2.2.2.2.2 ∧ y.2.2.2.2.2 ≤ 999 ∧ rGd y.2.2.2.2.1 ∧ 0 ≤ y.2.2.2.2.1.2.2.1 ∧ y.2.2.2.2.1.2.2.1 ≤ 15) ∧ rPrs C y.1 ∧ (∀ k, 1 ≤ k → k ≤ C → rLm (rPo y (y.1 k)) (y.2.1 k) ∧ rGd (rPo y k)) ∧ rTc C y.1 y.2.2.1 y.2.2.2.1
theorem rPo_s {C : Int} {y : rY} (h : rTr C y) {k : Int} (k0 : 1 ≤ k) (k1 : k ≤ C) : rPo y k = rMk (rPo y (y.1 k)) (y.2.1 k) := rRec_s h.1.2.1 h.2.1 k0 k1
theorem rPo_0 {y : rY} : rPo y 0 = y.2.2.2.2.1 := rRec_0
theorem rPo_g {C : Int} {y : rY} (h : rTr C y) {k : Int} (k0 : 0 ≤ k) (k1 : k ≤ C) : rGd (rPo y k) := by
  by_cases c : k = 0
  · rw [c, rPo_0]; exact h.1.2.2.2.2.1
  · exact (h.2.2.1 k (by omega) k1).2
theorem rTr_L {C : Int} {y : rY} (h : rTr C y) {k : Int} (k0 : 0 ≤ k) (k1 : k ≤ C) : ∃ L : List Int, L.Nodup ∧ rCn y.2.2.2.1 (y.2.2.1 k) L ∧ (∀ c, c ∈ L ↔ 1 ≤ c ∧ c ≤ C ∧ y.1 c = k) ∧ L.length ≤ 300 := by
  obtain ⟨⟨c0, c1, -, -, -, -, -⟩, -, -, L, h2⟩ := h
  obtain ⟨n1, n2, n3⟩ := h2 k k0 k1
  have h3 := rNd_len C.toNat (L k) n1 (fun c hc => by have := (n3 c).mp hc; omega)
  exact ⟨L k, n1, n2, n3, by omega⟩
/-- rows that are the same on the nodes there are -/
theorem rTr_cg {C : Int} {y y' : rY} (h : rTr C y) (e1 : ∀ k, 0 ≤ k → k ≤ C → y'.1 k = y.1 k) (e2 : ∀ k, 0 ≤ k → k ≤ C → y'.2.1 k = y.2.1 k) (e3 : ∀ k, 0 ≤ k → k ≤ C → y'.2.2.1 k = y.2.2.1 k) (e4 : ∀ k, 0 ≤ k → k ≤ C → y'.2.2.2.1 k = y.2.2.2.1 k) (e5 : y'.2.2.2.2 = y.2.2.2.2) : rTr C y' ∧ (∀ k, k ≤ C → rPo y' k = rPo y k) := by
  obtain ⟨h1, h2, h3, L, h4⟩ := h
  have hp : ∀ k, k ≤ C → rPo y' k = rPo y k := fun k hk => by
    unfold rPo
    rw [e5]
    exact rRec_cg h2 (fun k k0 k1 => e1 k (by omega) k1) (fun k k0 k1 => by funext q; rw [e2 k (by omega) k1]) 301 k hk
  refine ⟨⟨by rw [e5]; exact h1, fun k k0 k1 => by rw [e1 k (by omega) k1]; exact h2 k k0 k1, fun k k0 k1 => ?_, L, fun k k0 k1 => ?_⟩, hp⟩
  · have := h2 k k0 k1
    rw [e1 k (by omega) k1, e2 k (by omega) k1, hp _ (by omega), hp k k1]
    exact h3 k k0 k1
  · obtain ⟨m1, m2, m3⟩ := h4 k k0 k1
    refine ⟨m1, ?_, fun c => ?_⟩
    · rw [e3 k k0 k1]
      exact rCn_cg (fun c hc => by have := (m3 c).mp hc; exact e4 c (by omega) (by omega)) m2
    · rw [m3 c]
      constructor
      · rintro ⟨a, b, c2⟩
        exact ⟨a, b, by rw [e1 c (by omega) b]; exact c2⟩
      · rintro ⟨a, b, c2⟩
        exact ⟨a, b, by rw [← e1 c (by omega) b]; exact c2⟩
/-- a node more -/
theorem rTr_ap {C nd mv : Int} {y y' : rY} (h : rTr C y) (hC : C ≤ 299) (n0 : 0 ≤ nd) (n1 : nd ≤ C) (hl : rLm (rPo y nd) mv) (hg : rGd (rMk (rPo y nd) mv)) (e1 : ∀ k, 0 ≤ k → k ≤ C → y'.1 k = y.1 k) (e2 : ∀ k, 0 ≤ k → k ≤ C → y'.2.1 k = y.2.1 k) (e5 : y'.2.2.2.2 = y.2.2.2.2) (f1 : y'.1 (C + 1) = nd) (f2 : y'.2.1 (C + 1) = mv) (f3 : y'.2.2.1 (C + 1) = -1) (f4 : y'.2.2.2.1 (C + 1) = -1) (e3 : ∀ k, 0 ≤ k → k ≤ C → ¬ k = nd → y'.2.2.1 k = y.2.2.1 k) (g3 : y'.2.2.1 nd = if y.2.2.1 nd = -1 then C + 1 else y.2.2.1 nd) (e4 : ∀ c, 0 ≤ c → c ≤ C → y'.2.2.2.1 c = if (y.1 c = nd ∧ 1 ≤ c) ∧ y.2.2.2.1 c = -1 then C + 1 else y.2.2.2.1 c) : rTr (C + 1) y' := by
  have hY := h
  obtain ⟨h1, h2, h3, L, h4⟩ := h
  have hp' : rPrs (C + 1) y'.1 := fun k k0 k1 => by
    by_cases c : k = C + 1
    · rw [c, f1]; omega
    · rw [e1 k (by omega) (by omega)]; exact h2 k k0 (by omega)
  have hpo : ∀ k, k ≤ C → rPo y' k = rPo y k := fun k hk => by
    unfold rPo
    rw [e5]
    exact rRec_cg h2 (fun k k0 k1 => e1 k (by omega) k1) (fun k k0 k1 => by funext q; rw [e2 k (by omega) k1]) 301 k hk
  have hpk : rPo y' (C + 1) = rMk (rPo y nd) mv := by
    have h9 : rPo y' (C + 1) = rMk (rPo y' (y'.1 (C + 1))) (y'.2.1 (C + 1)) := rRec_s (C := C + 1) (by omega) hp' (by omega) (by omega)
    rw [h9, f1, f2, hpo nd n1]
  refine ⟨⟨by omega, by omega, by rw [e5]; exact h1.2.2.1, by rw [e5]; exact h1.2.2.2.1, by rw [e5]; exact h1.2.2.2.2⟩, hp', fun k k0 k1 => ?_, fun k => if k = C + 1 then [] else if k = nd then L nd ++ [C + 1] else L k, fun k k0 k1 => ?_⟩
  · by_cases c : k = C + 1
    · rw [c, f1, f2, hpo nd n1, hpk]
      exact ⟨hl, hg⟩
    · have := h2 k k0 (by omega)
      rw [e1 k (by omega) (by omega), e2 k (by omega) (by omega), hpo _ (by omega), hpo k (by omega)]
      exact h3 k k0 (by omega)
  · dsimp only
    by_cases c : k = C + 1
    · rw [if_pos c]
      refine ⟨List.nodup_nil, by rw [c, f3]; exact rfl, fun d => ⟨fun hd9 => (by cases hd9), fun hd9 => ?_⟩⟩
      exfalso
      have := hp' d hd9.1 hd9.2.1
      omega
    · rw [if_neg c]
      obtain ⟨m1, m2, m3⟩ := h4 k k0 (by omega)
      by_cases c2 : k = nd
      · rw [if_pos c2]
        rw [c2] at m1 m2 m3 ⊢
        have hn : ¬ (C + 1) ∈ L nd := fun hm => by have := (m3 _).mp hm; omega
        refine ⟨List.nodup_append.mpr ⟨m1, List.nodup_cons.mpr ⟨List.not_mem_nil, List.nodup_nil⟩, fun a ha b hb e => ?_⟩, ?_, fun d => ?_⟩
        · rw [List.mem_singleton.mp hb] at e
          exact hn (e ▸ ha)
        · refine rCn_app (x := y.2.2.1 nd) m2 m1 (fun d hd9 => by have := (m3 d).mp hd9; omega) (fun d hd9 hz => ?_) (fun d hd9 hz => ?_) f4 (fun e => by rw [g3, if_pos e]) (fun e => by rw [g3, if_neg e])
          · have := (m3 d).mp hd9
            rw [e4 d (by omega) (by omega), if_neg (fun h9 => hz h9.2)]
          · have := (m3 d).mp hd9
            rw [e4 d (by omega) (by omega), if_pos ⟨⟨this.2.2, this.1⟩, hz⟩]
        · rw [List.mem_append, m3 d, List.mem_singleton]
          constructor
          · rintro (⟨a, b, d9⟩ | d9)
            · exact ⟨a, by omega, by rw [e1 d (by omega) b]; exact d9⟩
            · rw [d9, f1]; omega
          · rintro ⟨a, b, d9⟩
            by_cases c3 : d = C + 1
            · exact Or.inr c3
            · rw [e1 d (by omega) (by omega)] at d9
              exact Or.inl ⟨a, by omega, d9⟩
      · rw [if_neg c2]
        refine ⟨m1, ?_, fun d => ?_⟩
        · rw [e3 k k0 (by omega) c2]
          refine rCn_cg (fun d hd9 => ?_) m2
          have := (m3 d).mp hd9
          rw [e4 d (by omega) (by omega), if_neg (fun h9 => c2 (by rw [← this.2.2]; exact h9.1.1))]
        · rw [m3 d]
          constructor
          · rintro ⟨a, b, d9⟩
            exact ⟨a, by omega, by rw [e1 d (by omega) b]; exact d9⟩
          · rintro ⟨a, b, d9⟩
            by_cases c3 : d = C + 1
            · rw [c3, f1] at d9
              exact absurd d9.symm c2
            · rw [e1 d (by omega) (by omega)] at d9
              exact ⟨a, by omega, d9⟩
theorem rCn_nl {nx : Int → Int} {c : Int} {B : List Int} : ∀ {A : List Int} {x : Int}, rCn nx x (A ++ c :: B) → nx c = -1 → (∀ d ∈ B, 0 ≤ d) → B = []
  | [], x, h, hz, hb => by
    match B, h.2, hb with
    | [], _, _ => rfl
    | d :: r, h2, hb =>
      have e : nx c = d := h2.1
      have := hb d List.mem_cons_self
      omega
  | _ :: A, x, h, hz, hb => rCn_nl (A := A) h.2 hz hb
theorem rCn_mv {nx : Int → Int} {c : Int} {B : List Int} : ∀ {A : List Int} {x : Int}, rCn nx x (A ++ c :: B) → rCn nx (nx c) B
  | [], _, h => h.2
  | _ :: A, _, h => rCn_mv (A := A) h.2
/-- the chain's last one alone has none behind it -/
theorem rCn_la {nx : Int → Int} {l : Int} {A : List Int} {x : Int} (h : rCn nx x (A ++ [l])) (hb : ∀ d ∈ A ++ [l], 0 ≤ d) {c : Int} (hc : c ∈ A ++ [l]) (hz : nx c = -1) : c = l := by
  rcases List.mem_append.mp hc with h1 | h1
  · obtain ⟨A1, A2, rfl⟩ := List.append_of_mem h1
    have h2 : rCn nx x (A1 ++ c :: (A2 ++ [l])) := by
      rw [List.append_assoc, List.cons_append] at h
      exact h
    have h3 := rCn_nl h2 hz (fun d hd => hb d (by
      rw [List.append_assoc, List.cons_append]
      exact List.mem_append_right _ (List.mem_cons_of_mem _ hd)))
    exact absurd h3 (by simp)
  · exact List.mem_singleton.mp h1
/-- another one goes on -/
theorem rTr_ld {C h b : Int} {A B : List Int} {y y' : rY} (hT : rTr C y) (h0 : 1 ≤ h) (h1 : h ≤ C) (hf : ¬ y.2.2.1 (y.1 h) = h) (hL : rCn y.2.2.2.1 (y.2.2.1 (y.1 h)) (A ++ b :: h :: B)) (hB : ∀ c ∈ A ++ b :: h :: B, 0 ≤ c) (e1 : y'.1 = y.1) (e2 : y'.2.1 = y.2.1) (e5 : y'.2.2.2.2 = y.2.2.2.2) (e3 : ∀ k, 0 ≤ k → k ≤ C → y'.2.2.1 k = if k = y.1 h then h else y.2.2.1 k) (e4 : ∀ k, 0 ≤ k → k ≤ C → y'.2.2.2.1 k = if k = h then y.2.2.1 (y.1 h) else if k = b then y.2.2.2.1 h else y.2.2.2.1 k) : rTr C y' := by
  have hT2 := hT
  obtain ⟨t1, t2, t3, L, t4⟩ := hT
  have hu := t2 h h0 h1
  obtain ⟨m1, m2, m3⟩ := t4 (y.1 h) (by omega) (by omega)
  have eL : L (y.1 h) = A ++ b :: h :: B := rCn_uq m2 hL (fun c hc => by have := (m3 c).mp hc; omega) hB
  have hp : ∀ k, rPo y' k = rPo y k := fun k => by unfold rPo; rw [e1, e2, e5]
  rw [eL] at m1 m3
  have hpm : (A ++ b :: h :: B).Perm (h :: (A ++ b :: B)) := (List.Perm.append_left A (List.Perm.swap h b B)).trans List.perm_middle
  refine ⟨by rw [e5]; exact t1, by rw [e1]; exact t2, fun k k0 k1 => by rw [e1, e2, hp, hp]; exact t3 k k0 k1, fun k => if k = y.1 h then h :: (A ++ b :: B) else L k, fun k k0 k1 => ?_⟩
  dsimp only
  by_cases c : k = y.1 h
  · rw [if_pos c]
    have nd := (hpm.nodup_iff).mp m1
    have nd2 := List.nodup_cons.mp nd
    refine ⟨nd, ?_, fun d => ?_⟩
    · rw [e3 k k0 k1, if_pos c]
      refine ⟨rfl, ?_⟩
      rw [e4 h (by omega) h1, if_pos rfl]
      have hmem : ∀ d, d ∈ A ++ b :: h :: B → 0 ≤ d ∧ d ≤ C := fun d hd9 => by have := (m3 d).mp hd9; omega
      have nb : ¬ b ∈ A ∧ ¬ b ∈ B := by
        have h8 := (List.perm_middle (a := b) (l₁ := A) (l₂ := B)).nodup_iff.mp nd2.2
        have h7 := (List.nodup_cons.mp h8).1
        exact ⟨fun h6 => h7 (List.mem_append_left _ h6), fun h6 => h7 (List.mem_append_right _ h6)⟩
      have nh : ∀ d ∈ A ++ b :: B, ¬ d = h := fun d hd9 e => nd2.1 (e ▸ hd9)
      refine rCn_rem hL (fun d hd9 => ?_) ?_ (fun d hd9 => ?_)
      · have hm := hmem d (List.mem_append_left _ hd9)
        rw [e4 d hm.1 hm.2, if_neg (nh d (List.mem_append_left _ hd9)), if_neg (fun (e : d = b) => nb.1 (e ▸ hd9))]
      · have hm := hmem b (List.mem_append_right _ List.mem_cons_self)
        rw [e4 b hm.1 hm.2, if_neg (nh b (List.mem_append_right _ List.mem_cons_self)), if_pos rfl]
      · have hm := hmem d (List.mem_append_right _ (List.mem_cons_of_mem _ (List.mem_cons_of_mem _ hd9)))
        rw [e4 d hm.1 hm.2, if_neg (nh d (List.mem_append_right _ (List.mem_cons_of_mem _ hd9))), if_neg (fun (e : d = b) => nb.2 (e ▸ hd9))]
    · rw [← hpm.mem_iff, m3 d, e1, c]
  · rw [if_neg c]
    obtain ⟨q1, q2, q3⟩ := t4 k k0 k1
    refine ⟨q1, ?_, fun d => by rw [q3 d, e1]⟩
    rw [e3 k k0 k1, if_neg c]
    refine rCn_cg (fun d hd9 => ?_) q2
    have h7 := (q3 d).mp hd9
    have h8 : ¬ d = h := fun e => c (by rw [← h7.2.2, e])
    have h9 : ¬ d = b := fun e => c (by rw [← h7.2.2, e]; exact ((m3 b).mp (List.mem_append_right _ List.mem_cons_self)).2.2)
    rw [e4 d (by omega) h7.2.1, if_neg h8, if_neg h9]
/-- the way up -/
def rUa (pa : Int → Int) : Nat → Int → Int
  | 0, k => k
  | j + 1, k => pa (rUa pa j k)
/-! the tree's rows -/
def rSc (g : Nat → Int32) (o : Int) : Int → Int := fun k => (g (301 * o + k).toNat).toInt
def rS0 (g5 g6 : Nat → Int32) (o : Int) : rQ := (fun i => if 0 ≤ i ∧ i ≤ 63 then (g5 (64 * o + i).toNat).toInt else 0, (g6 (5 * o).toNat).toInt, (g6 (5 * o + 1).toNat).toInt, (g6 (5 * o + 2).toNat).toInt)
def rRy9 (K : Nat → Nat) (n : Nat) (σ : Nat → jcell) (a f kr : Nat) (o : Int) (fn : Int → Int) : Prop := ∃ g, rRo K n σ a 62 f kr 602 g ∧ fn = rSc g o
def rSt9 (K : Nat → Nat) (n : Nat) (σ : Nat → jcell) (a : Nat) (o : Int) (q : rQ) (z : Int) : Prop := ∃ g5 g6, rRo K n σ a 62 16 74 128 g5 ∧ rRo K n σ a 62 17 75 10 g6 ∧ q = rS0 g5 g6 o ∧ z = (g6 (5 * o + 4).toNat).toInt
def rTy (K : Nat → Nat) (n : Nat) (σ : Nat → jcell) (a : Nat) (o : Int) (y : rY) : Prop := rRy9 K n σ a 8 66 o y.1 ∧ rRy9 K n σ a 9 67 o y.2.1 ∧ rRy9 K n σ a 10 68 o y.2.2.1 ∧ rRy9 K n σ a 11 69 o y.2.2.2.1 ∧ rSt9 K n σ a o y.2.2.2.2.1 y.2.2.2.2.2
def rCt9 (K : Nat → Nat) (n : Nat) (σ : Nat → jcell) (a : Nat) (o C : Int) : Prop := ∃ g, rRo K n σ a 62 7 65 2 g ∧ (g o.toNat).toInt = C
def rTY (K : Nat → Nat) (n : Nat) (σ : Nat → jcell) (a : Nat) (o C : Int) (y : rY) : Prop := rTy K n σ a o y ∧ rCt9 K n σ a o C ∧ rTr C y
theorem rRy9_u {K : Nat → Nat} {n : Nat} {σ : Nat → jcell} {a f kr : Nat} {o : Int} {u v : Int → Int} (h : rRy9 K n σ a f kr o u) (h' : rRy9 K n σ a f kr o v) : u = v := by
  obtain ⟨g, h1, rfl⟩ := h
  obtain ⟨g', h2, rfl⟩ := h'
  rw [rRo_u h1 h2]
theorem rSt9_u {K : Nat → Nat} {n : Nat} {σ : Nat → jcell} {a : Nat} {o z z' : Int} {u v : rQ} (h : rSt9 K n σ a o u z) (h' : rSt9 K n σ a o v z') : u = v ∧ z = z' := by
  obtain ⟨g, g1, h1, h2, rfl, rfl⟩ := h
  obtain ⟨g', g1', h3, h4, rfl, rfl⟩ := h'
  rw [rRo_u h1 h3, rRo_u h2 h4]
  exact ⟨rfl, rfl⟩
theorem rTy_u {K : Nat → Nat} {n : Nat} {σ : Nat → jcell} {a : Nat} {o : Int} {u v : rY} (h : rTy K n σ a o u) (h' : rTy K n σ a o v) : u = v := by
  obtain ⟨u1, u2, u3, u4, u5, u6⟩ := u
  obtain ⟨v1, v2, v3, v4, v5, v6⟩ := v
  obtain ⟨a1, a2, a3, a4, a5⟩ := h
  obtain ⟨b1, b2, b3, b4, b5⟩ := h'
  dsimp only at a1 a2 a3 a4 a5 b1 b2 b3 b4 b5
  obtain ⟨e5, e6⟩ := rSt9_u a5 b5
  rw [rRy9_u a1 b1, rRy9_u a2 b2, rRy9_u a3 b3, rRy9_u a4 b4, e5, e6]
theorem rTY_u {K : Nat → Nat} {n : Nat} {σ : Nat → jcell} {a : Nat} {o C D : Int} {u v : rY} (h : rTY K n σ a o C u) (h' : rTY K n σ a o D v) : C = D ∧ u = v := by
  obtain ⟨h1, ⟨g, r1, e1⟩, -⟩ := h
  obtain ⟨h2, ⟨g', r2, e2⟩, -⟩ := h'
  rw [rRo_u r1 r2] at e1
  exact ⟨by rw [← e1, ← e2], rTy_u h1 h2⟩
theorem rSc_c {K : Nat → Nat} {n : Nat} {σ : Nat → jcell} {a b c m f kr i : Nat} {o k : Int} {fn : Int → Int} {fs : List jv} {ty : FieldType} {gg : Nat → Int32} {v : Int32} (h : rRy9 K n σ a f kr o fn) (e1 : σ a = .inr (c, fs)) (e2 : fs[f]? = some (rR b)) (e3 : σ b = .inl (ty, m, .inl gg)) (ev : v = gg i) (ei : (i : Int) = 301 * o + k) : fn k = v.toInt := by
  obtain ⟨g, h1, rfl⟩ := h
  have e := rRo_c (i := i) h1 e1 e2 e3 ev
  show (g (301 * o + k).toNat).toInt = v.toInt
  rw [show (301 * o + k).toNat = i by omega]
  exact e
theorem rRy9_st {K : Nat → Nat} {n : Nat} {σ σ' : Nat → jcell} {vs : List jv} {d : List aDe} (h : ∀ a, a < n → ∀ q ∈ d, q.1 = K a → aSm vs q (σ a) (σ' a)) {a f kr : Nat} {F : List Nat} {z : Option aF} {o : Int} {fn : Int → Int} (hq : (62, F, z) ∈ d) (hf : f ∈ F) (hr : (kr, [], none) ∈ d) (ho : rRy9 K n σ a f kr o fn) : rRy9 K n σ' a f kr o fn := by
  obtain ⟨g, h1, e⟩ := ho
  exact ⟨g, rRo_st h hq hf hr h1, e⟩
theorem rRy9_sb {K : Nat → Nat} {n : Nat} {σ σ' : Nat → jcell} {vs : List jv} {d : List aDe} (h : ∀ a, a < n → ∀ q ∈ d, q.1 = K a → aSm vs q (σ a) (σ' a)) {a f kr : Nat} {F : List Nat} {z : Option aF} {fo : aF} {o b : Int} {fn : Int → Int} (hq : (62, F, z) ∈ d) (hf : f ∈ F) (hr : (kr, [], some fo) ∈ d) (hb : ∀ x, aVa vs fo x → x = b) (ho : rRy9 K n σ a f kr o fn) : ∃ fn', rRy9 K n σ' a f kr o fn' ∧ ∀ k : Int, 0 ≤ 301 * o + k → 301 * o + k < b → fn' k = fn k := by
  obtain ⟨g, h1, rfl⟩ := ho
  obtain ⟨g', h2, h3⟩ := rRo_sb h hq hf hr hb h1
  refine ⟨_, ⟨g', h2, rfl⟩, fun k k0 k1 => ?_⟩
  show (g' (301 * o + k).toNat).toInt = (g (301 * o + k).toNat).toInt
  rw [h3 _ (by omega)]
theorem rSt9_st {K : Nat → Nat} {n : Nat} {σ σ' : Nat → jcell} {vs : List jv} {d : List aDe} (h : ∀ a, a < n → ∀ q ∈ d, q.1 = K a → aSm vs q (σ a) (σ' a)) {a : Nat} {F : List Nat} {z : Option aF} {o y : Int} {q : rQ} (hq : (62, F, z) ∈ d) (hf : 16 ∈ F) (hf2 : 17 ∈ F) (hr : (74, [], none) ∈ d) (hr2 : (75, [], none) ∈ d) (ho : rSt9 K n σ a o q y) : rSt9 K n σ' a o q y := by
  obtain ⟨g, g', h1, h2, e⟩ := ho
  exact ⟨g, g', rRo_st h hq hf hr h1, rRo_st h hq hf2 hr2 h2, e⟩
theorem rTy_st {K : Nat → Nat} {n : Nat} {σ σ' : Nat → jcell} {vs : List jv} {d : List aDe} (h : ∀ a, a < n → ∀ q ∈ d, q.1 = K a → aSm vs q (σ a) (σ' a)) {a : Nat} {F : List Nat} {z : Option aF} {o : Int} {y : rY} (hq : (62, F, z) ∈ d) (hf : 8 ∈ F ∧ 9 ∈ F ∧ 10 ∈ F ∧ 11 ∈ F ∧ 16 ∈ F ∧ 17 ∈ F) (r1 : (66, [], none) ∈ d) (r2 : (67, [], none) ∈ d) (r3 : (68, [], none) ∈ d) (r4 : (69, [], none) ∈ d) (r5 : (74, [], none) ∈ d) (r6 : (75, [], none) ∈ d) (ho : rTy K n σ a o y) : rTy K n σ' a o y :=
  ⟨rRy9_st h hq hf.1 r1 ho.1, rRy9_st h hq hf.2.1 r2 ho.2.1, rRy9_st h hq hf.2.2.1 r3 ho.2.2.1, rRy9_st h hq hf.2.2.2.1 r4 ho.2.2.2.1, rSt9_st h hq hf.2.2.2.2.1 hf.2.2.2.2.2 r5 r6 ho.2.2.2.2⟩
theorem rTY_st {K : Nat → Nat} {n : Nat} {σ σ' : Nat → jcell} {vs : List jv} {d : List aDe} (h : ∀ a, a < n → ∀ q ∈ d, q.1 = K a → aSm vs q (σ a) (σ' a)) {a : Nat} {F : List Nat} {z : Option aF} {o C : Int} {y : rY} (hq : (62, F, z) ∈ d) (hf : 8 ∈ F ∧ 9 ∈ F ∧ 10 ∈ F ∧ 11 ∈ F ∧ 16 ∈ F ∧ 17 ∈ F) (h7 : 7 ∈ F) (r0 : (65, [], none) ∈ d) (r1 : (66, [], none) ∈ d) (r2 : (67, [], none) ∈ d) (r3 : (68, [], none) ∈ d) (r4 : (69, [], none) ∈ d) (r5 : (74, [], none) ∈ d) (r6 : (75, [], none) ∈ d) (ho : rTY K n σ a o C y) : rTY K n σ' a o C y := by
  obtain ⟨h1, ⟨g, r, e⟩, h2⟩ := ho
  exact ⟨rTy_st h hq hf r1 r2 r3 r4 r5 r6 h1, ⟨g, rRo_st h hq h7 r0 r, e⟩, h2⟩
def rPth (K : Nat → Nat) (n : Nat) (σ : Nat → jcell) (a : Nat) (y : rY) (nd b : Int) : Prop := ∃ g, rRo K n σ a 62 34 86 301 g ∧ ∀ i, 0 ≤ i → i < b → (g i.toNat).toInt = rUa y.1 i.toNat nd ∧ 1 ≤ rUa y.1 i.toNat nd
def rSL9 (K : Nat → Nat) (n : Nat) (σ : Nat → jcell) (a : Nat) (o nd : Int) : Prop := ∃ (pa mo : Int → Int) (q0 : rQ) (z : Int) (c v : Int32), rRy9 K n σ a 8 66 o pa ∧ rRy9 K n σ a 9 67 o mo ∧ rSt9 K n σ a o q0 z ∧ rTX K n σ a (rPo3 pa mo q0 nd) ∧ rGd (rPo3 pa mo q0 nd) ∧ (rOb K n σ a 62 33 (rI c) ∧ c.toInt ≤ 2048 ∧ rTL K n σ a c.toInt (rPo3 pa mo q0 nd)) ∧ rOb K n σ a 62 29 (rI v) ∧ 0 ≤ v.toInt ∧ v.toInt ≤ 1298
def rUs (k : Nat) : Int × Int := ([(0, 4), (8, 1), (48, 9), (56, 12), (1, 2), (9, 1), (49, 9), (57, 10), (2, 3), (10, 1), (50, 9), (58, 11), (3, 5), (11, 1), (51, 9), (59, 13), (4, 6), (12, 1), (52, 9), (60, 14), (5, 3), (13, 1), (53, 9), (61, 11), (6, 2), (14, 1), (54, 9), (62, 10), (7, 4), (15, 1), (55, 9), (63, 12)] : List (Int × Int)).getD k (0, 0)
def rIp : Nat → Int → Int
  | 0 => fun _ => 0
  | k + 1 => rUp (rIp k) (rUs k).1 (rUs k).2
def rVl (K : Nat → Nat) (n : Nat) (σ : Nat → jcell) (a : Nat) (g : Nat → Int32) : Prop := ∃ r, rOb K n σ a 62 22 (rR r) ∧ r < n ∧ K r = 80 ∧ σ r = .inl (.char, 1536, .inl g)
theorem aR_sn {K : Nat → Nat} {n : Nat} {es : List aE} {ρ : List jv} {t : aT} {v : jv} (h : aR K n es ρ) (hv : aG K n t v) : aR K n (es ++ [(t, none)]) (ρ ++ [v]) := by
  obtain ⟨h1, h2⟩ := h
  refine ⟨by rw [List.length_append, List.length_append, h1]; rfl, fun i e w he hw => ?_⟩
  by_cases c : i < es.length
  · rw [List.getElem?_append_left c] at he
    rw [List.getElem?_append_left (by omega)] at hw
    obtain ⟨a1, a2⟩ := h2 i e w he hw
    exact ⟨a1, aRl.mo aX_app a2⟩
  · have hi : i = es.length := by
      have := (List.getElem?_eq_some_iff.mp he).1
      rw [List.length_append] at this
      have h9 : [(t, (none : Option aF))].length = 1 := rfl
      omega
    subst hi
    rw [List.getElem?_append_right (Nat.le_refl _), Nat.sub_self] at he
    rw [← h1, List.getElem?_append_right (Nat.le_refl _), Nat.sub_self] at hw
    cases he
    cases hw
    exact ⟨hv, trivial⟩
theorem aGho_n1 {P : Type} {F : aFt P} {T : List aKd} {K : Nat → Nat} {n : Nat} {JX : (Nat → jcell) → Prop} {G : aCon} {b : Int × Int} (h1 : G.2.2.2.2.1.1 = none) (h2 : G.2.2.2.2.1.2.1 = [.inl b]) (h : ∀ (p : P) (σ : Nat → jcell) (ρ : List jv), aH T K n σ → JX σ → aR K n G.2.2.2.1.1 ρ → aMm F p ρ σ G.2.2.2.1.2 → ∃ (p' : P) (x : Int32), (G.2.2.2.2.2.1.1.isEmpty = true → p' = p) ∧ b.1 ≤ x.toInt ∧ x.toInt ≤ b.2 ∧ aMm F p' (ρ ++ [.inl x]) σ G.2.2.2.2.1.2.2.1 ∧ ∃ A ∈ G.2.2.2.2.1.2.2.2, ∀ f ∈ A, aHd (ρ ++ [.inl x]) f) : aGho F T K n JX G := by
  intro p σ ρ hH hX hA hM
  obtain ⟨p', x, f1, x0, x1, f2, A, f3, f4⟩ := h p σ ρ hH hX hA hM
  have e2 : aPe G = G.2.2.2.1.1 ++ [(.inl b, none)] := by unfold aPe; rw [h1, h2]; rfl
  refine ⟨p', [.inl x], f1, ?_, f2, A, f3, f4⟩
  rw [e2]
  exact aR_sn hA ⟨x0, x1⟩
theorem rI32 {z : Int} (h0 : 0 ≤ z) (h1 : z ≤ 1000) : ∃ x : Int32, x.toInt = z := ⟨Int32.ofInt z, by rw [Int32.toInt_ofInt_of_le (by omega) (by omega)]⟩
theorem rTy_o {K : Nat → Nat} {n : Nat} {σ : Nat → jcell} {a b : Nat} {o : Int} {y : rY} {c : jcell} (h : rTy K n σ a o y) (hb : K b = 86 ∨ K b = 82 ∨ K b = 65) : rTy K n (jup σ b c) a o y := by
  obtain ⟨⟨g1, r1, e1⟩, ⟨g2, r2, e2⟩, ⟨g3, r3, e3⟩, ⟨g4, r4, e4⟩, g5, g6, r5, r6, e5⟩ := h
  exact ⟨⟨g1, rRo_o r1 (by omega) (by omega), e1⟩, ⟨g2, rRo_o r2 (by omega) (by omega), e2⟩, ⟨g3, rRo_o r3 (by omega) (by omega), e3⟩, ⟨g4, rRo_o r4 (by omega) (by omega), e4⟩, g5, g6, rRo_o r5 (by omega) (by omega), rRo_o r6 (by omega) (by omega), e5⟩
theorem rTY_o {K : Nat → Nat} {n : Nat} {σ : Nat → jcell} {a b : Nat} {o C : Int} {y : rY} {c : jcell} (h : rTY K n σ a o C y) (hb : K b = 86 ∨ K b = 82) : rTY K n (jup σ b c) a o C y := by
  obtain ⟨h1, ⟨g, r, e⟩, h2⟩ := h
  exact ⟨rTy_o h1 (by omega), ⟨g, rRo_o r (by omega) (by omega), e⟩, h2⟩
theorem rUa_b {C nd : Int} {y : rY} (h : rTr C y) (n0 : 0 ≤ nd) (n1 : nd ≤ C) : ∀ {j : Nat}, (∀ i : Nat, i < j → 1 ≤ rUa y.1 i nd) → 0 ≤ rUa y.1 j nd ∧ rUa y.1 j nd ≤ C
  | 0, _ => ⟨n0, n1⟩
  | j + 1, hi => by
    have ih := rUa_b h n0 n1 (j := j) (fun i h9 => hi i (by omega))
    have := h.2.1 _ (hi j (by omega)) ih.2
    exact ⟨this.1, by show y.1 (rUa y.1 j nd) ≤ C; omega⟩
theorem rTy_sb {K : Nat → Nat} {n : Nat} {σ σ' : Nat → jcell} {vs : List jv} {d : List aDe} (h : ∀ a, a < n → ∀ q ∈ d, q.1 = K a → aSm vs q (σ a) (σ' a)) {a : Nat} {F : List Nat} {z : Option aF} {fo : aF} {o b : Int} {y : rY} (hq : (62, F, z) ∈ d) (hf : 8 ∈ F ∧ 9 ∈ F ∧ 10 ∈ F ∧ 11 ∈ F ∧ 16 ∈ F ∧ 17 ∈ F) (r5 : (74, [], none) ∈ d) (r6 : (75, [], none) ∈ d) (r1 : (66, [], some fo) ∈ d) (r2 : (67, [], some fo) ∈ d) (r3 : (68, [], some fo) ∈ d) (r4 : (69, [], some fo) ∈ d) (hb : ∀ x, aVa vs fo x → x = b) (ho : rTy K n σ a o y) : ∃ y', rTy K n σ' a o y' ∧ (∀ k, 0 ≤ 301 * o + k → 301 * o + k < b → y'.1 k = y.1 k ∧ y'.2.1 k = y.2.1 k ∧ y'.2.2.1 k = y.2.2.1 k ∧ y'.2.2.2.1 k = y.2.2.2.1 k) ∧ y'.2.2.2.2 = y.2.2.2.2 := by
  obtain ⟨h1, h2, h3, h4, h5⟩ := ho
  obtain ⟨f1, i1, j1⟩ := rRy9_sb h hq hf.1 r1 hb h1
  obtain ⟨f2, i2, j2⟩ := rRy9_sb h hq hf.2.1 r2 hb h2
  obtain ⟨f3, i3, j3⟩ := rRy9_sb h hq hf.2.2.1 r3 hb h3
  obtain ⟨f4, i4, j4⟩ := rRy9_sb h hq hf.2.2.2.1 r4 hb h4
  exact ⟨(f1, f2, f3, f4, y.2.2.2.2), ⟨i1, i2, i3, i4, rSt9_st h hq hf.2.2.2.2.1 hf.2.2.2.2.2 r5 r6 h5⟩, fun k k0 k1 => ⟨j1 k k0 k1, j2 k k0 k1, j3 k k0 k1, j4 k k0 k1⟩, rfl⟩
theorem rVl_st {K : Nat → Nat} {n : Nat} {σ σ' : Nat → jcell} {vs : List jv} {d : List aDe} (h : ∀ a, a < n → ∀ q ∈ d, q.1 = K a → aSm vs q (σ a) (σ' a)) {a : Nat} {F : List Nat} {z : Option aF} {g : Nat → Int32} (hq : (62, F, z) ∈ d) (hf : 22 ∈ F) (hr : (80, [], none) ∈ d) (ho : rVl K n σ a g) : rVl K n σ' a g := by
  obtain ⟨r, o, h1, h2, e⟩ := ho
  refine ⟨r, rOb_st h hq hf o, h1, h2, ?_⟩
  rcases h r h1 _ hr h2.symm with e1 | ⟨c', f1, f2, e3, e4, -, e5⟩ | ⟨ty, m, g1, g2, f', z', e0, -⟩
  · rw [e1]; exact e
  · rw [e3] at e
    cases e
  · cases e0
