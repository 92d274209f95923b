/-! the tree of a game: what holds of it, apart from the heap -/
theorem fTk_le {N : Nat} {t : fTy} {q : fQ} {h : Nat} (H : fTk N t q h) : h ≤ N := H.1
theorem fTk_good {N : Nat} {t : fTy} {q : fQ} {h : Nat} (H : fTk N t q h) : fGood q.1 q.2 ∧ 0 ≤ (q.2 5).toInt ∧ (q.2 5).toInt ≤ 999 + h := by
  obtain ⟨h1, h2, pos, S, L, rfl, g1, -⟩ := H
  exact g1 h h1
theorem fTk_pa {N : Nat} {t : fTy} {q : fQ} {h : Nat} (H : fTk N t q h) {k : Nat} (h1 : 1 ≤ k) (h2 : k ≤ N) : 0 ≤ (t.1 k).toInt ∧ (t.1 k).toInt < k := by
  obtain ⟨-, -, pos, S, L, -, -, g2, -⟩ := H
  obtain ⟨j, e, l, -⟩ := g2 k h1 h2
  omega
theorem fTk_up {N : Nat} {t : fTy} {q : fQ} {h : Nat} (H : fTk N t q h) (hh : 1 ≤ h) : ∃ (j : Nat) (q' : fQ), (t.1 h).toInt = j ∧ j < h ∧ fTk N t q' j ∧ fM q'.1 q'.2 (t.2.1 h) ∧ q = fPl q' (t.2.1 h) ∧ fU q' (t.2.1 h) (t.2.2.2.2 h) := by
  obtain ⟨h1, h2, pos, S, L, rfl, g1, g2, g3, g4, g5⟩ := H
  obtain ⟨j, e1, e2, e3, e4⟩ := g2 h hh h1
  have hs : S h := g3.resolve_left (by omega)
  obtain ⟨-, -, j', f1, f2, f3, -⟩ := g4 h hs
  have ej : j' = j := by omega
  subst ej
  refine ⟨j', pos j', e1, e2, ⟨by omega, h2, pos, fun k => S k ∧ k ≤ j', L, rfl, g1, g2, f3.imp id (fun z => ⟨z, Nat.le_refl _⟩), fun k hk => ?_, g5⟩, e3, e4, f2⟩
  obtain ⟨a1, a2, i, a3, a4, a5, -⟩ := g4 k hk.1
  obtain ⟨i', b1, b2, -⟩ := g2 k a1 a2
  have ei : i' = i := by omega
  subst ei
  exact ⟨a1, a2, i', a3, a4, a5.imp id (fun z => ⟨z, by have := hk.2; omega⟩), hk.2⟩
theorem fTk_mv {N : Nat} {t : fTy} {q : fQ} {h : Nat} (H : fTk N t q h) {c : Nat} (h1 : 1 ≤ c) (h2 : c ≤ N) (hp : (t.1 c).toInt = h) : fM q.1 q.2 (t.2.1 c) := by
  obtain ⟨-, -, pos, S, L, rfl, -, g2, -⟩ := H
  obtain ⟨j, e1, e2, e3, e4⟩ := g2 c h1 h2
  have ej : j = h := by omega
  subst ej
  exact e3
theorem fTk_dn {N : Nat} {t : fTy} {q : fQ} {h : Nat} (H : fTk N t q h) {c : Nat} (h1 : 1 ≤ c) (h2 : c ≤ N) (hp : (t.1 c).toInt = h) {u : Int64} (hu : fU q (t.2.1 c) u) : fTk N (t.1, t.2.1, t.2.2.1, t.2.2.2.1, vp_updL t.2.2.2.2 c u) (fPl q (t.2.1 c)) c := by
  obtain ⟨k1, k2, pos, S, L, rfl, g1, g2, g3, g4, g5⟩ := H
  obtain ⟨j, e1, e2, e3, e4⟩ := g2 c h1 h2
  have ej : j = h := by omega
  subst ej
  refine ⟨h2, k2, pos, fun k => S k ∨ k = c, L, e4, g1, g2, Or.inr (Or.inr rfl), fun k hk => ?_, g5⟩
  rcases hk with hk | rfl
  · obtain ⟨a1, a2, i, a3, a4, a5, a6⟩ := g4 k hk
    refine ⟨a1, a2, i, a3, ?_, a5.imp id Or.inl, by omega⟩
    show fU (pos i) (t.2.1 k) (vp_updL t.2.2.2.2 c u k)
    unfold vp_updL
    rw [if_neg (by omega)]
    exact a4
  · refine ⟨h1, h2, j, hp, ?_, g3.imp id Or.inl, Nat.le_refl _⟩
    show fU (pos j) (t.2.1 k) (vp_updL t.2.2.2.2 k u k)
    unfold vp_updL
    rw [if_pos rfl]
    exact hu
/-! chains -/
theorem fCn_uq {af : Nat → Int32} : ∀ {L L' : List Nat} {x : Int}, fCn af x L → fCn af x L' → (∀ c ∈ L, 1 ≤ c) → (∀ c ∈ L', 1 ≤ c) → L = L'
  | [], [], _, _, _, _, _ => rfl
  | [], c :: r, x, h1, h2, _, h4 => by
    have := h4 c List.mem_cons_self
    have e1 : x = 0 := h1
    have e2 : x = (c : Int) := h2.1
    omega
  | c :: r, [], x, h1, h2, h3, _ => by
    have := h3 c List.mem_cons_self
    have e1 : x = (c : Int) := h1.1
    have e2 : x = 0 := h2
    omega
  | c :: r, c' :: r', x, h1, h2, h3, h4 => by
    have e : c = c' := by have e1 : x = (c : Int) := h1.1; have e2 : x = (c' : Int) := h2.1; omega
    subst e
    rw [fCn_uq h1.2 h2.2 (fun d hd => h3 d (List.mem_cons_of_mem _ hd)) (fun d hd => h4 d (List.mem_cons_of_mem _ hd))]
theorem fCn_cg {af af' : Nat → Int32} : ∀ {L : List Nat} {x : Int}, (∀ c ∈ L, af' c = af c) → fCn af x L → fCn af' x L
  | [], _, _, h => h
  | c :: r, _, he, h => ⟨h.1, by rw [he c List.mem_cons_self]; exact fCn_cg (fun d hd => he d (List.mem_cons_of_mem _ hd)) h.2⟩
theorem fCn_drop {af : Nat → Int32} {L : List Nat} {i : Nat} {x y : Int} (h : fCn af x (L.drop i)) (h1 : ∀ c ∈ L, 1 ≤ c) (hx : 1 ≤ x) (hy : y = (af x.toNat).toInt) : fCn af y (L.drop (i + 1)) ∧ ∃ c ∈ L, x = (c : Int) := by
  cases e : L.drop i with
  | nil =>
    rw [e] at h
    have : x = 0 := h
    omega
  | cons c r =>
    rw [e] at h
    have hc : x = (c : Int) := h.1
    have hr : L.drop (i + 1) = r := by
      rw [← List.drop_drop, e]
      rfl
    refine ⟨?_, c, ?_, hc⟩
    · rw [hr, hy, hc]
      exact h.2
    · have : c ∈ L.drop i := by rw [e]; exact List.mem_cons_self
      exact List.mem_of_mem_drop this
theorem fNd_len : ∀ (N : Nat) (L : List Nat), L.Nodup → (∀ c ∈ L, 1 ≤ c ∧ c ≤ N) → L.length ≤ N := by
  intro N
  induction N with
  | zero =>
    intro L _ h
    cases L with
    | nil => exact Nat.le_refl _
    | cons c r => have := h c List.mem_cons_self; omega
  | succ N ih =>
    intro L hn h
    by_cases hm : (N + 1) ∈ L
    · have h1 : (L.erase (N + 1)).length = L.length - 1 := List.length_erase_of_mem hm
      have h2 : (L.erase (N + 1)).length ≤ N := by
        refine ih _ (hn.erase _) (fun c hc => ?_)
        have h3 := (List.Nodup.mem_erase_iff hn).mp hc
        have h4 := h c h3.2
        have h5 := h3.1
        omega
      have h6 : 1 ≤ L.length := List.length_pos_of_mem hm
      omega
    · have := ih L hn (fun c hc => by
        have h4 := h c hc
        have h5 : ¬ c = N + 1 := fun e => hm (e ▸ hc)
        omega)
      omega
theorem fCn_end {af : Nat → Int32} {L : List Nat} {N i : Nat} {x : Int} (h : fCn af x (L.drop i)) (hn : L.Nodup) (h1 : ∀ c ∈ L, 1 ≤ c ∧ c ≤ N) (hi : N ≤ i) : x = 0 := by
  have h2 := fNd_len N L hn h1
  have e : L.drop i = [] := List.drop_eq_nil_of_le (by omega)
  rw [e] at h
  exact h
theorem fTk_ch {N : Nat} {t : fTy} {q : fQ} {h : Nat} (H : fTk N t q h) {k : Nat} (hk : k ≤ N) : ∃ L : List Nat, L.Nodup ∧ fCn t.2.2.2.1 (t.2.2.1 k).toInt L ∧ ∀ c ∈ L, 1 ≤ c ∧ c ≤ N ∧ (t.1 c).toInt = k := by
  obtain ⟨-, -, pos, S, L, -, -, -, -, -, g5⟩ := H
  exact ⟨L k, g5 k hk⟩
theorem fPl_ck (q : fQ) (m : Int32) (h0 : 0 ≤ (q.2 5).toInt) (h1 : (q.2 5).toInt ≤ 2000) : 0 ≤ ((fPl q m).2 5).toInt ∧ ((fPl q m).2 5).toInt ≤ (q.2 5).toInt + 1 := by
  unfold fPl fFw bF
  dsimp only
  simp only [va_up]
  simp only [show ¬ (5 : Nat) = 2 from by decide, show ¬ (5 : Nat) = 6 from by decide, show ¬ (5 : Nat) = 12 from by decide, show ¬ (5 : Nat) = 13 from by decide, if_true, if_false]
  have e0 : (0 : Int32).toInt = 0 := rfl
  have e1 : (q.2 5 + 1).toInt = (q.2 5).toInt + 1 := by
    rw [Int32.toInt_add, show (1 : Int32).toInt = 1 from rfl]
    exact Int.bmod_eq_of_le (by omega) (by omega)
  split
  · rw [e0]; omega
  · rw [e1]; omega
/-- a node more: behind the others with its parent -/
theorem fTk_add {N : Nat} {t t' : fTy} {q : fQ} {h : Nat} (H : fTk N t q h) (hN : N ≤ 299) {m : Int32} (hm : fM q.1 q.2 m) (hg : fGood (fPl q m).1 (fPl q m).2)
    (e1 : ∀ k, k ≤ N → t'.1 k = t.1 k) (e2 : ∀ k, k ≤ N → t'.2.1 k = t.2.1 k) (eu : t'.2.2.2.2 = t.2.2.2.2)
    (p1 : (t'.1 (N + 1)).toInt = h) (p2 : t'.2.1 (N + 1) = m) (p3 : (t'.2.2.1 (N + 1)).toInt = 0)
    (hf : ∀ k, k ≤ N → ¬ k = h → t'.2.2.1 k = t.2.2.1 k) (ha : ∀ k, k ≤ N → ¬ (t.1 k).toInt = h → t'.2.2.2.1 k = t.2.2.2.1 k)
    (hL : ∀ L : List Nat, L.Nodup → fCn t.2.2.2.1 (t.2.2.1 h).toInt L → (∀ c ∈ L, 1 ≤ c ∧ c ≤ N) → fCn t'.2.2.2.1 (t'.2.2.1 h).toInt (L ++ [N + 1])) : fTk (N + 1) t' q h := by
  obtain ⟨k1, k2, pos, S, L, rfl, g1, g2, g3, g4, g5⟩ := H
  have hlow : ∀ k, k ≤ N → (if k = N + 1 then fPl (pos h) m else pos k) = pos k := fun k hk => if_neg (by omega)
  refine ⟨by omega, by omega, fun k => if k = N + 1 then fPl (pos h) m else pos k, S, fun k => if k = h then L h ++ [N + 1] else if k = N + 1 then [] else L k, hlow h k1, fun k hk => ?_, fun k h1 h2 => ?_, g3, fun k hk => ?_, fun k hk => ?_⟩
  · by_cases e : k = N + 1
    · subst e
      dsimp only
      rw [if_pos rfl]
      have h3 := g1 h k1
      have h4 := fPl_ck (pos h) m h3.2.1 (by omega)
      exact ⟨hg, h4.1, by omega⟩
    · have : k ≤ N := by omega
      dsimp only
      rw [hlow k this]
      exact g1 k this
  · by_cases e : k = N + 1
    · subst e
      refine ⟨h, p1, by omega, ?_, ?_⟩
      · dsimp only
        rw [hlow h k1, p2]
        exact hm
      · dsimp only
        rw [hlow h k1, p2, if_pos rfl]
    · have hk : k ≤ N := by omega
      obtain ⟨j, a1, a2, a3, a4⟩ := g2 k h1 hk
      refine ⟨j, by rw [e1 k hk]; exact a1, a2, ?_, ?_⟩
      · dsimp only
        rw [hlow j (by omega), e2 k hk]
        exact a3
      · dsimp only
        rw [hlow j (by omega), e2 k hk, hlow k hk]
        exact a4
  · obtain ⟨a1, a2, j, a3, a4, a5, a6⟩ := g4 k hk
    obtain ⟨j', b1, b2, -⟩ := g2 k a1 a2
    refine ⟨a1, by omega, j, by rw [e1 k a2]; exact a3, ?_, a5, a6⟩
    dsimp only
    rw [hlow j (by omega), e2 k a2, eu]
    exact a4
  · by_cases e : k = h
    · subst e
      obtain ⟨b1, b2, b3⟩ := g5 k k1
      dsimp only
      rw [if_pos rfl]
      refine ⟨?_, hL (L k) b1 b2 (fun c hc => ⟨(b3 c hc).1, (b3 c hc).2.1⟩), fun c hc => ?_⟩
      · refine List.nodup_append.mpr ⟨b1, by simp, fun a ha b hb => ?_⟩
        rw [List.mem_singleton] at hb
        have := (b3 a ha).2.1
        omega
      · rcases List.mem_append.mp hc with hc | hc
        · obtain ⟨c1, c2, c3⟩ := b3 c hc
          exact ⟨c1, by omega, by rw [e1 c c2]; exact c3⟩
        · rw [List.mem_singleton] at hc
          subst hc
          exact ⟨by omega, Nat.le_refl _, p1⟩
    · dsimp only
      rw [if_neg e]
      by_cases e9 : k = N + 1
      · subst e9
        rw [if_pos rfl]
        exact ⟨List.nodup_nil, p3, fun c hc => by cases hc⟩
      · have hk2 : k ≤ N := by omega
        rw [if_neg e9, hf k hk2 e]
        obtain ⟨b1, b2, b3⟩ := g5 k hk2
        refine ⟨b1, fCn_cg (fun c hc => ?_) b2, fun c hc => ?_⟩
        · obtain ⟨c1, c2, c3⟩ := b3 c hc
          exact ha c c2 (by omega)
        · obtain ⟨c1, c2, c3⟩ := b3 c hc
          exact ⟨c1, by omega, by rw [e1 c c2]; exact c3⟩
theorem fCn_app {af af' : Nat → Int32} {N : Nat} : ∀ {L : List Nat} {x y : Int}, fCn af x L → L.Nodup → (∀ c ∈ L, c ≤ N ∧ 1 ≤ c) → (∀ c ∈ L, ¬ (af c).toInt = 0 → af' c = af c) → (∀ c ∈ L, (af c).toInt = 0 → (af' c).toInt = (N + 1 : Int)) → (af' (N + 1)).toInt = 0 → (x = 0 → y = (N + 1 : Int)) → (¬ x = 0 → y = x) → fCn af' y (L ++ [N + 1])
  | [], x, y, h, _, _, _, _, h3, h4, _ => by
    have e : x = 0 := h
    exact ⟨by rw [h4 e]; simp, by rw [h3]; rfl⟩
  | c :: r, x, y, h, hn, hb, h1, h2, h3, h4, h5 => by
    have e : x = (c : Int) := h.1
    have hc := hb c List.mem_cons_self
    have hn2 := (List.nodup_cons.mp hn).2
    refine ⟨by rw [h5 (by omega)]; exact e, ?_⟩
    refine fCn_app (x := (af c).toInt) h.2 hn2 (fun d hd => hb d (List.mem_cons_of_mem _ hd)) (fun d hd => h1 d (List.mem_cons_of_mem _ hd)) (fun d hd => h2 d (List.mem_cons_of_mem _ hd)) h3 (fun e0 => h2 c List.mem_cons_self e0) (fun e0 => ?_)
    rw [h1 c List.mem_cons_self e0]
theorem fCn_rem {af af' : Nat → Int32} {b n : Nat} {B : List Nat} : ∀ {A : List Nat} {x : Int}, fCn af x (A ++ b :: n :: B) → (∀ c ∈ A, af' c = af c) → (af' b = af n) → (∀ c ∈ B, af' c = af c) → fCn af' x (A ++ b :: B)
  | [], x, h, _, h2, h3 => ⟨h.1, by rw [h2]; exact fCn_cg h3 h.2.2⟩
  | c :: A, x, h, h1, h2, h3 => ⟨h.1, by rw [h1 c List.mem_cons_self]; exact fCn_rem h.2 (fun d hd => h1 d (List.mem_cons_of_mem _ hd)) h2 h3⟩
theorem fTk_lead {N : Nat} {t : fTy} {q : fQ} {h : Nat} (H : fTk N t q h) {ab bf nd i : Nat} {ndI : Int32} {L0 : List Nat} (n0 : L0.Nodup) (c0 : fCn t.2.2.2.1 (t.2.2.1 ab).toInt L0) (l0 : ∀ c ∈ L0, 1 ≤ c ∧ c ≤ N ∧ (t.1 c).toInt = ab) (hd : fCn t.2.2.2.1 (bf : Int) (L0.drop i)) (hb : 1 ≤ bf) (hn : (t.2.2.2.1 bf).toInt = nd) (hn1 : 1 ≤ nd) (hI : ndI.toInt = nd) (hab : ab ≤ N) : fTk N (t.1, t.2.1, upd t.2.2.1 ab ndI, upd (upd t.2.2.2.1 bf (t.2.2.2.1 nd)) nd (t.2.2.1 ab), t.2.2.2.2) q h := by
  obtain ⟨k1, k2, pos, S, L, hq, g1, g2, g3, g4, g5⟩ := H
  obtain ⟨B, eB⟩ : ∃ B, L0.drop i = bf :: nd :: B := by
    cases e : L0.drop i with
    | nil => rw [e] at hd; have : (bf : Int) = 0 := hd; omega
    | cons c r =>
      rw [e] at hd
      have e1 : c = bf := by have : (bf : Int) = c := hd.1; omega
      subst e1
      cases r with
      | nil => have e2 : (t.2.2.2.1 c).toInt = 0 := hd.2; omega
      | cons d r =>
        have e2 : (t.2.2.2.1 c).toInt = (d : Int) := hd.2.1
        have e3 : d = nd := by omega
        subst e3
        exact ⟨r, rfl⟩
  have eL : L0 = L0.take i ++ bf :: nd :: B := by rw [← eB, List.take_append_drop]
  generalize L0.take i = A at eL
  subst eL
  have hbm := l0 bf (by simp)
  have hnm := l0 nd (by simp)
  have hnd := List.nodup_append.mp n0
  have hn2 := List.nodup_cons.mp hnd.2.1
  have hn3 := List.nodup_cons.mp hn2.2
  have hA : ∀ c ∈ A, ¬ c = bf ∧ ¬ c = nd := fun c hc => ⟨hnd.2.2 c hc bf (by simp), hnd.2.2 c hc nd (by simp)⟩
  have hB : ∀ c ∈ B, ¬ c = bf ∧ ¬ c = nd := fun c hc => ⟨fun e => hn2.1 (by rw [← e]; simp [hc]), fun e => hn3.1 (e ▸ hc)⟩
  have hbn : ¬ bf = nd := fun e => hn2.1 (by rw [e]; simp)
  have key : ∀ c, ¬ c = bf → ¬ c = nd → upd (upd t.2.2.2.1 bf (t.2.2.2.1 nd)) nd (t.2.2.1 ab) c = t.2.2.2.1 c := fun c h1 h2 => by
    unfold upd
    rw [if_neg h2, if_neg h1]
  refine ⟨k1, k2, pos, S, fun k => if k = ab then nd :: (A ++ bf :: B) else L k, hq, g1, g2, g3, g4, fun k hk => ?_⟩
  by_cases e : k = ab
  · subst e
    dsimp only
    rw [if_pos rfl]
    refine ⟨?_, ⟨?_, ?_⟩, fun c hc => ?_⟩
    · refine List.nodup_cons.mpr ⟨fun hm => ?_, ?_⟩
      · rcases List.mem_append.mp hm with hm | hm
        · exact (hA nd hm).2 rfl
        · rcases List.mem_cons.mp hm with hm | hm
          · exact hbn hm.symm
          · exact (hB nd hm).2 rfl
      · refine List.nodup_append.mpr ⟨hnd.1, List.nodup_cons.mpr ⟨fun hm => (hB bf hm).1 rfl, hn3.2⟩, fun a ha b hb => ?_⟩
        rcases List.mem_cons.mp hb with rfl | hb
        · exact (hA a ha).1
        · exact hnd.2.2 a ha b (by simp [hb])
    · show (upd t.2.2.1 k ndI k).toInt = nd
      unfold upd
      rw [if_pos rfl]
      exact hI
    · show fCn _ (upd (upd t.2.2.2.1 bf (t.2.2.2.1 nd)) nd (t.2.2.1 k) nd).toInt _
      have e1 : upd (upd t.2.2.2.1 bf (t.2.2.2.1 nd)) nd (t.2.2.1 k) nd = t.2.2.1 k := by
        unfold upd
        rw [if_pos rfl]
      rw [e1]
      refine fCn_rem c0 (fun c hc => key c (hA c hc).1 (hA c hc).2) ?_ (fun c hc => key c (hB c hc).1 (hB c hc).2)
      unfold upd
      rw [if_neg hbn, if_pos rfl]
    · have : c ∈ A ++ bf :: nd :: B := by
        rcases List.mem_cons.mp hc with rfl | hc
        · simp
        · rcases List.mem_append.mp hc with hc | hc
          · simp [hc]
          · rcases List.mem_cons.mp hc with rfl | hc
            · simp
            · simp [hc]
      exact l0 c this
  · obtain ⟨b1, b2, b3⟩ := g5 k hk
    dsimp only
    rw [if_neg e]
    refine ⟨b1, ?_, b3⟩
    have ef : upd t.2.2.1 ab ndI k = t.2.2.1 k := by unfold upd; rw [if_neg e]
    rw [ef]
    refine fCn_cg (fun c hc => key c ?_ ?_) b2
    · intro e9; subst e9
      have := (b3 c hc).2.2
      omega
    · intro e9; subst e9
      have := (b3 c hc).2.2
      omega
theorem fCn_last {af : Nat → Int32} : ∀ {L : List Nat} {x : Int}, fCn af x L → L.Nodup → (∀ c ∈ L, 1 ≤ c) → ∀ {d e : Nat}, d ∈ L → e ∈ L → (af d).toInt = 0 → (af e).toInt = 0 → d = e
  | [], _, _, _, _, _, _, hd, _, _, _ => by cases hd
  | c :: r, x, h, hn, h1, d, e, hd, he, zd, ze => by
    by_cases hz : (af c).toInt = 0
    · have hr : r = [] := by
        cases r with
        | nil => rfl
        | cons b r =>
          have h2 : (af c).toInt = (b : Int) := h.2.1
          have h3 := h1 b (List.mem_cons_of_mem _ List.mem_cons_self)
          omega
      subst hr
      rw [List.mem_singleton] at hd he
      rw [hd, he]
    · have hd2 : d ∈ r := (List.mem_cons.mp hd).resolve_left (fun e => hz (e ▸ zd))
      have he2 : e ∈ r := (List.mem_cons.mp he).resolve_left (fun e9 => hz (e9 ▸ ze))
      exact fCn_last h.2 (List.nodup_cons.mp hn).2 (fun b hb => h1 b (List.mem_cons_of_mem _ hb)) hd2 he2 zd ze
theorem fCn_le {N : Nat} {t : fTy} {q : fQ} {h : Nat} (H : fTk N t q h) {L : List Nat} {ab : Nat} (n1 : L.Nodup) (c1 : fCn t.2.2.2.1 (t.2.2.1 ab).toInt L) (l1 : ∀ c ∈ L, 1 ≤ c) (hab : ab ≤ N) {c : Nat} (hc : c ∈ L) : c ≤ N := by
  obtain ⟨L', h1, h2, h3⟩ := fTk_ch H hab
  have e := fCn_uq c1 h2 l1 (fun d hd => (h3 d hd).1)
  subst e
  exact (h3 c hc).2.1
theorem fUp_s (pa : Nat → Int32) (k x : Nat) : fUp pa (k + 1) x = fUp pa k (pa x).toInt.toNat := rfl
theorem fUp_z (pa : Nat → Int32) (x : Nat) : fUp pa 0 x = x := rfl
/-! rows and fields of a game -/
theorem fRo_r {K : Nat → Nat} {n : Nat} {σ : Nat → jcell} {a f k c r : Nat} {fs : List jv} {g : Nat → Int32} (h : fRo K n σ a f k g) (hs : σ a = .inr (c, fs)) (ht : fs[f]? = some (fR r)) : r < n ∧ K r = k ∧ σ r = .inl (.int, 301, .inl g) := by
  obtain ⟨-, -, fs', r', e1, e2, h1, h2, h3⟩ := h
  rw [hs] at e1
  cases e1
  rw [ht] at e2
  cases e2
  exact ⟨h1, h2, h3⟩
theorem fRl_r {K : Nat → Nat} {n : Nat} {σ : Nat → jcell} {a c r : Nat} {fs : List jv} {g : Nat → Int64} (h : fRl K n σ a g) (hs : σ a = .inr (c, fs)) (ht : fs[7]? = some (fR r)) : r < n ∧ K r = 42 ∧ σ r = .inl (.long, 301, .inr (.inl g)) := by
  obtain ⟨-, -, fs', r', e1, e2, h1, h2, h3⟩ := h
  rw [hs] at e1
  cases e1
  rw [ht] at e2
  cases e2
  exact ⟨h1, h2, h3⟩
theorem fRo_u {K : Nat → Nat} {n : Nat} {σ : Nat → jcell} {a f k : Nat} {g g' : Nat → Int32} (h : fRo K n σ a f k g) (h' : fRo K n σ a f k g') : g = g' := by
  obtain ⟨-, -, fs, r, e1, e2, -, -, h3⟩ := h
  have h4 := (fRo_r h' e1 e2).2.2
  rw [h3] at h4
  cases h4
  rfl
theorem fRl_u {K : Nat → Nat} {n : Nat} {σ : Nat → jcell} {a : Nat} {g g' : Nat → Int64} (h : fRl K n σ a g) (h' : fRl K n σ a g') : g = g' := by
  obtain ⟨-, -, fs, r, e1, e2, -, -, h3⟩ := h
  have h4 := (fRl_r h' e1 e2).2.2
  rw [h3] at h4
  cases h4
  rfl
theorem fTw_u {K : Nat → Nat} {n : Nat} {σ : Nat → jcell} {a : Nat} {t t' : fTy} (h : fTw K n σ a t) (h' : fTw K n σ a t') : t = t' := by
  obtain ⟨t1, t2, t3, t4, t5⟩ := t
  obtain ⟨u1, u2, u3, u4, u5⟩ := t'
  obtain ⟨a1, a2, a3, a4, a5⟩ := h
  obtain ⟨b1, b2, b3, b4, b5⟩ := h'
  have e1 := fRo_u a1 b1
  have e2 := fRo_u a2 b2
  have e3 := fRo_u a3 b3
  have e4 := fRo_u a4 b4
  have e5 := fRl_u a5 b5
  dsimp only at e1 e2 e3 e4 e5
  rw [e1, e2, e3, e4, e5]
theorem fFi_u {K : Nat → Nat} {n : Nat} {σ : Nat → jcell} {a f c : Nat} {fs : List jv} {v w : jv} (h : fFi K n σ a f v) (hs : σ a = .inr (c, fs)) (ht : fs[f]? = some w) : v = w := by
  obtain ⟨-, -, fs', e1, e2⟩ := h
  rw [hs] at e1
  cases e1
  rw [ht] at e2
  exact (Option.some.inj e2).symm
theorem fFi_i {K : Nat → Nat} {n : Nat} {σ : Nat → jcell} {a f c : Nat} {fs : List jv} {v w : Int32} (h : fFi K n σ a f (fI v)) (hs : σ a = .inr (c, fs)) (ht : fs[f]? = some (fI w)) : w = v := (Sum.inl.inj (fFi_u h hs ht)).symm
theorem fFi_r {K : Nat → Nat} {n : Nat} {σ : Nat → jcell} {a f c : Nat} {fs : List jv} {v w : Nat} (h : fFi K n σ a f (fR v)) (hs : σ a = .inr (c, fs)) (ht : fs[f]? = some (fR w)) : w = v := (Sum.inl.inj (Option.some.inj (Sum.inr.inj (Sum.inr.inj (fFi_u h hs ht))))).symm
theorem fRo_c {K : Nat → Nat} {n : Nat} {σ : Nat → jcell} {a f k c r m : Nat} {ty : FieldType} {fs : List jv} {g gc : Nat → Int32} (h : fRo K n σ a f k g) (hs : σ a = .inr (c, fs)) (ht : fs[f]? = some (fR r)) (hc : σ r = .inl (ty, m, .inl gc)) : gc = g := by
  have h3 := (fRo_r h hs ht).2.2
  rw [hc] at h3
  cases h3
  rfl
theorem fRl_c {K : Nat → Nat} {n : Nat} {σ : Nat → jcell} {a c r m : Nat} {ty : FieldType} {fs : List jv} {g gc : Nat → Int64} (h : fRl K n σ a g) (hs : σ a = .inr (c, fs)) (ht : fs[7]? = some (fR r)) (hc : σ r = .inl (ty, m, .inr (.inl gc))) : gc = g := by
  have h3 := (fRl_r h hs ht).2.2
  rw [hc] at h3
  cases h3
  rfl
theorem fRo_ne {K : Nat → Nat} {n : Nat} {σ : Nat → jcell} {a f k b : Nat} {c : jcell} {g : Nat → Int32} (h : fRo K n σ a f k g) (h1 : ¬ K b = 25) (h2 : ¬ K b = k) : fRo K n (jup σ b c) a f k g := by
  obtain ⟨ha, hk, fs, r, e1, e2, l1, l2, l3⟩ := h
  have n1 : a ≠ b := fun e => h1 (e ▸ hk)
  have n2 : r ≠ b := fun e => h2 (e ▸ l2)
  exact ⟨ha, hk, fs, r, by rw [jup_n n1]; exact e1, e2, l1, l2, by rw [jup_n n2]; exact l3⟩
theorem fRl_ne {K : Nat → Nat} {n : Nat} {σ : Nat → jcell} {a b : Nat} {c : jcell} {g : Nat → Int64} (h : fRl K n σ a g) (h1 : ¬ K b = 25) (h2 : ¬ K b = 42) : fRl K n (jup σ b c) a g := by
  obtain ⟨ha, hk, fs, r, e1, e2, l1, l2, l3⟩ := h
  have n1 : a ≠ b := fun e => h1 (e ▸ hk)
  have n2 : r ≠ b := fun e => h2 (e ▸ l2)
  exact ⟨ha, hk, fs, r, by rw [jup_n n1]; exact e1, e2, l1, l2, by rw [jup_n n2]; exact l3⟩
theorem fFi_ne {K : Nat → Nat} {n : Nat} {σ : Nat → jcell} {a f b : Nat} {c : jcell} {v : jv} (h : fFi K n σ a f v) (h1 : ¬ K b = 25) : fFi K n (jup σ b c) a f v := by
  obtain ⟨ha, hk, fs, e1, e2⟩ := h
  have n1 : a ≠ b := fun e => h1 (e ▸ hk)
  exact ⟨ha, hk, fs, by rw [jup_n n1]; exact e1, e2⟩
theorem fRo_st {K : Nat → Nat} {n : Nat} {σ : Nat → jcell} {a f k c r i : Nat} {x : Int32} {fs : List jv} {g : Nat → Int32} (h : fRo K n σ a f k g) (hs : σ a = .inr (c, fs)) (ht : fs[f]? = some (fR r)) (hk : ¬ k = 25) : fRo K n (jup σ r (jsto (σ r) i x)) a f k (upd g i x) := by
  obtain ⟨l1, l2, l3⟩ := fRo_r h hs ht
  obtain ⟨ha, hka, fs', r', e1, e2, -, -, -⟩ := h
  have n1 : a ≠ r := fun e => hk (by rw [← l2, ← e]; exact hka)
  rw [hs] at e1
  cases e1
  exact ⟨ha, hka, fs, r, by rw [jup_n n1]; exact hs, ht, l1, l2, by rw [jup_s, l3]; rfl⟩
theorem fRl_st {K : Nat → Nat} {n : Nat} {σ : Nat → jcell} {a c r i : Nat} {x : Int64} {fs : List jv} {g : Nat → Int64} (h : fRl K n σ a g) (hs : σ a = .inr (c, fs)) (ht : fs[7]? = some (fR r)) : fRl K n (jup σ r (jstl (σ r) i x)) a (vp_updL g i x) := by
  obtain ⟨l1, l2, l3⟩ := fRl_r h hs ht
  obtain ⟨ha, hka, fs', r', e1, e2, -, -, -⟩ := h
  have n1 : a ≠ r := fun e => (by decide : ¬ (42 : Nat) = 25) (by rw [← l2, ← e]; exact hka)
  rw [hs] at e1
  cases e1
  exact ⟨ha, hka, fs, r, by rw [jup_n n1]; exact hs, ht, l1, l2, by rw [jup_s, l3]; rfl⟩
theorem fGa_c {K : Nat → Nat} {n : Nat} {σ : Nat → jcell} (hH : aH fa_T K n σ) {a c : Nat} {fs : List jv} (ha : a < n) (hk : K a = 25) (hs : σ a = .inr (c, fs)) : c = 9 := by
  obtain ⟨fs', e, -⟩ := aCe_obj (hH a ha _ (by rw [hk]; rfl))
  rw [hs] at e
  cases e
  rfl
theorem fFi_mk {K : Nat → Nat} {n : Nat} {σ : Nat → jcell} (hH : aH fa_T K n σ) {a c f : Nat} {fs : List jv} {v : jv} (ha : a < n) (hk : K a = 25) (hs : σ a = .inr (c, fs)) (ht : fs[f]? = some v) : fFi K n σ a f v := by
  have := fGa_c hH ha hk hs
  subst this
  exact ⟨ha, hk, fs, hs, ht⟩
theorem fRo_mk {K : Nat → Nat} {n : Nat} {σ : Nat → jcell} (hH : aH fa_T K n σ) {a c f r k : Nat} {fs : List jv} (ha : a < n) (hk : K a = 25) (hs : σ a = .inr (c, fs)) (ht : fs[f]? = some (fR r)) (hr : r < n) (hkr : K r = k) {q : (Int × Int) × List (Nat × Nat × Int × Int × Int)} (hq : fa_T[k]? = some (.inl (.int, 301, q))) : ∃ g, fRo K n σ a f k g ∧ σ r = .inl (.int, 301, .inl g) := by
  have := fGa_c hH ha hk hs
  subst this
  obtain ⟨g, e⟩ := fRow hH hr hkr hq (by intro h; cases h)
  exact ⟨g, ⟨ha, hk, fs, r, hs, ht, hr, hkr, e⟩, e⟩
theorem fRl_mk {K : Nat → Nat} {n : Nat} {σ : Nat → jcell} (hH : aH fa_T K n σ) {a c r : Nat} {fs : List jv} (ha : a < n) (hk : K a = 25) (hs : σ a = .inr (c, fs)) (ht : fs[7]? = some (fR r)) (hr : r < n) (hkr : K r = 42) : ∃ g, fRl K n σ a g := by
  have := fGa_c hH ha hk hs
  subst this
  obtain ⟨g, e⟩ := aCe_larr (q := (.long, 301, _)) (hH r hr _ (by rw [hkr]; rfl)) rfl
  exact ⟨g, ha, hk, fs, r, hs, ht, hr, hkr, e⟩
theorem fOb_u {K : Nat → Nat} {n : Nat} {σ : Nat → jcell} {a k f c : Nat} {fs : List jv} {v w : jv} (h : fOb K n σ a k f v) (hs : σ a = .inr (c, fs)) (ht : fs[f]? = some w) : v = w := by
  obtain ⟨-, -, c', fs', e1, e2⟩ := h
  rw [hs] at e1
  cases e1
  rw [ht] at e2
  exact (Option.some.inj e2).symm
theorem fOb_i {K : Nat → Nat} {n : Nat} {σ : Nat → jcell} {a k f c : Nat} {fs : List jv} {v w : Int32} (h : fOb K n σ a k f (fI v)) (hs : σ a = .inr (c, fs)) (ht : fs[f]? = some (fI w)) : w = v := (Sum.inl.inj (fOb_u h hs ht)).symm
theorem fOu_u {K : Nat → Nat} {n : Nat} {σ : Nat → jcell} {a : Nat} {g g' : Nat → Int32} (h : fOu K n σ a g) (h' : fOu K n σ a g') : g = g' := by
  obtain ⟨r, ⟨-, -, c, fs, e1, e2⟩, -, -, h3⟩ := h
  obtain ⟨r', o', -, -, h4⟩ := h'
  have e := fOb_u o' e1 e2
  cases e
  rw [h3] at h4
  cases h4
  rfl
theorem fOu_c {K : Nat → Nat} {n : Nat} {σ : Nat → jcell} {a c r m : Nat} {ty : FieldType} {fs : List jv} {g gc : Nat → Int32} (h : fOu K n σ a g) (hs : σ a = .inr (c, fs)) (ht : fs[2]? = some (fR r)) (hc : σ r = .inl (ty, m, .inl gc)) : gc = g := by
  obtain ⟨r', o', -, -, h4⟩ := h
  have e := fOb_u o' hs ht
  cases e
  rw [hc] at h4
  cases h4
  rfl
theorem fOu_st {K : Nat → Nat} {n : Nat} {σ : Nat → jcell} {a c r i : Nat} {x : Int32} {fs : List jv} {g : Nat → Int32} (h : fOu K n σ a g) (hs : σ a = .inr (c, fs)) (ht : fs[2]? = some (fR r)) : fOu K n (jup σ r (jsto (σ r) i x)) a (upd g i x) := by
  obtain ⟨r', o', l1, l2, h4⟩ := h
  have e := fOb_u o' hs ht
  cases e
  have n1 : a ≠ r := fun e => (by decide : ¬ (11 : Nat) = 12) (by rw [← o'.2.1, e]; exact l2)
  exact ⟨r, ⟨o'.1, o'.2.1, c, fs, by rw [jup_n n1]; exact hs, ht⟩, l1, l2, by rw [jup_s, h4]; rfl⟩
theorem fTG_of {K : Nat → Nat} {n : Nat} {p : fP} {σ : Nat → jcell} {a : Nat} (h : fB K n p 100 [fR a] σ) : fTG K n σ a := by
  obtain ⟨a', b, h, N, t, q, e, g⟩ := h
  cases e
  exact ⟨b, h, N, t, q, g⟩
theorem fTG_to {K : Nat → Nat} {n : Nat} {p : fP} {σ : Nat → jcell} {a : Nat} (h : fTG K n σ a) : fB K n p 100 [fR a] σ := by
  obtain ⟨b, h, N, t, q, g⟩ := h
  exact ⟨a, b, h, N, t, q, rfl, g⟩
theorem fTk_new {t : fTy} {q : fQ} (hg : fGood q.1 q.2) (h0 : 0 ≤ (q.2 5).toInt) (h1 : (q.2 5).toInt ≤ 999) (hf : (t.2.2.1 0).toInt = 0) : fTk 0 t q 0 := by
  refine ⟨Nat.le_refl _, by omega, fun _ => q, fun _ => False, fun _ => [], rfl, fun k hk => ⟨hg, h0, by dsimp only; omega⟩, fun k a b => by omega, Or.inl rfl, fun k hk => hk.elim, fun k hk => ?_⟩
  obtain rfl : k = 0 := by omega
  exact ⟨List.nodup_nil, hf, fun c hc => by cases hc⟩
theorem fTk_f0 {t : fTy} {q : fQ} {h N : Nat} (H : fTk N t q h) (hN : N = 0) : (t.2.2.1 0).toInt = 0 := by
  obtain ⟨L, h1, h2, h3⟩ := fTk_ch H (k := 0) (Nat.zero_le _)
  cases L with
  | nil => exact h2
  | cons c r =>
    have h4 := h3 c List.mem_cons_self
    omega
theorem fWt_u {K : Nat → Nat} {n : Nat} {σ : Nat → jcell} {a : Nat} {g g' : Nat → Int32} (h : fWt K n σ a g) (h' : fWt K n σ a g') : g = g' := by
  obtain ⟨r, ⟨-, -, c, fs, e1, e2⟩, -, -, h3⟩ := h
  obtain ⟨r', o', -, -, h4⟩ := h'
  have e := fOb_u o' e1 e2
  cases e
  rw [h3] at h4
  cases h4
  rfl
theorem fWt_mk {K : Nat → Nat} {n : Nat} {σ : Nat → jcell} (hH : aH fa_T K n σ) {a c r : Nat} {fs : List jv} (ha : a < n) (hk : K a = 6) (hs : σ a = .inr (c, fs)) (ht : fs[3]? = some (fR r)) (hr : r < n) (hkr : K r = 1) : ∃ g, fWt K n σ a g ∧ σ r = .inl (.byte, 65537, .inl g) := by
  obtain ⟨g, e⟩ := fRow hH hr hkr (q := (.byte, 65537, (-128, 127), [])) rfl (by intro h; cases h)
  exact ⟨g, ⟨r, ⟨ha, hk, c, fs, hs, ht⟩, hr, hkr, e⟩, e⟩
theorem fOb_v {K : Nat → Nat} {n : Nat} {σ : Nat → jcell} {a k f : Nat} {v w : Int32} (h : fOb K n σ a k f (fI v)) (h' : fOb K n σ a k f (fI w)) : w = v := by
  obtain ⟨-, -, c, fs, e1, e2⟩ := h'
  exact fOb_i h e1 e2
theorem fSn_s (g : Nat → Int32) (a k : Nat) : fSn g a (k + 1) = fSn g a k + (if (g (a + k)).toInt = 32 then 1 else 0) := rfl
theorem fSn_mo (g : Nat → Int32) (a : Nat) : ∀ {k l : Nat}, k ≤ l → fSn g a k ≤ fSn g a l := by
  intro k l h
  induction l with
  | zero => rw [show k = 0 by omega]; exact Nat.le_refl _
  | succ l ih =>
    by_cases e : k = l + 1
    · rw [e]; exact Nat.le_refl _
    · have := ih (by omega)
      rw [fSn_s]
      omega
theorem fMe_u {K : Nat → Nat} {n : Nat} {σ : Nat → jcell} {a : Nat} {g g' : Nat → Int32} (h : fMe K n σ a g) (h' : fMe K n σ a g') : g = g' := by
  obtain ⟨r, ⟨-, -, c, fs, e1, e2⟩, -, -, h3⟩ := h
  obtain ⟨r', o', -, -, h4⟩ := h'
  have e := fOb_u o' e1 e2
  cases e
  rw [h3] at h4
  cases h4
  rfl
theorem fMe_mk {K : Nat → Nat} {n : Nat} {σ : Nat → jcell} (hH : aH fa_T K n σ) {a c r : Nat} {fs : List jv} (ha : a < n) (hk : K a = 26) (hs : σ a = .inr (c, fs)) (ht : fs[0]? = some (fR r)) (hr : r < n) (hkr : K r = 27) : ∃ g, fMe K n σ a g ∧ σ r = .inl (.int, 64, .inl g) := by
  obtain ⟨g, e⟩ := fRow hH hr hkr (q := (.int, 64, (0, 15), [])) rfl (by intro h; cases h)
  exact ⟨g, ⟨r, ⟨ha, hk, c, fs, hs, ht⟩, hr, hkr, e⟩, e⟩
theorem fMe_st {K : Nat → Nat} {n : Nat} {σ : Nat → jcell} {a c r i : Nat} {x : Int32} {fs : List jv} {g : Nat → Int32} (h : fMe K n σ a g) (hs : σ a = .inr (c, fs)) (ht : fs[0]? = some (fR r)) : fMe K n (jup σ r (jsto (σ r) i x)) a (upd g i x) := by
  obtain ⟨r', o', l1, l2, h4⟩ := h
  have e := fOb_u o' hs ht
  cases e
  have n1 : a ≠ r := fun e => (by decide : ¬ (26 : Nat) = 27) (by rw [← o'.2.1, e]; exact l2)
  exact ⟨r, ⟨o'.1, o'.2.1, c, fs, by rw [jup_n n1]; exact hs, ht⟩, l1, l2, by rw [jup_s, h4]; rfl⟩
theorem fMe_ex {K : Nat → Nat} {n : Nat} {σ : Nat → jcell} (hH : aH fa_T K n σ) {a : Nat} (ha : a < n) (hk : K a = 26) : ∃ g, fMe K n σ a g := by
  obtain ⟨fs, e, hl, hf⟩ := aCe_obj (hH a ha _ (by rw [hk]; rfl))
  have h0 : 0 < fs.length := by rw [hl]; decide
  have hv : fs[0]? = some fs[0] := List.getElem?_eq_getElem h0
  have hg := hf 0 (.inr (some (.inl (false, 27)))) _ rfl hv
  obtain ⟨r, er, hr, hkr⟩ := fG_ref (by decide) hg
  rw [er] at hv
  obtain ⟨g, w, -⟩ := fMe_mk hH ha hk e hv hr hkr
  exact ⟨g, w⟩
theorem fBo_c {K : Nat → Nat} {n : Nat} {σ : Nat → jcell} (hH : aH fa_T K n σ) {a c : Nat} {fs : List jv} (ha : a < n) (hk : K a = 26) (hs : σ a = .inr (c, fs)) : c = 10 := by
  obtain ⟨fs', e, -⟩ := aCe_obj (hH a ha _ (by rw [hk]; rfl))
  rw [hs] at e
  cases e
  rfl
theorem fPc_u {K : Nat → Nat} {n : Nat} {σ : Nat → jcell} {a : Nat} {g g' : Nat → Int32} (h : fPc K n σ a g) (h' : fPc K n σ a g') : g = g' := by
  obtain ⟨r, ⟨-, -, c, fs, e1, e2⟩, -, -, h3⟩ := h
  obtain ⟨r', o', -, -, h4⟩ := h'
  have e := fOb_u o' e1 e2
  cases e
  rw [h3] at h4
  cases h4
  rfl
theorem fPc_c {K : Nat → Nat} {n : Nat} {σ : Nat → jcell} {a c r m : Nat} {ty : FieldType} {fs : List jv} {g gc : Nat → Int32} (h : fPc K n σ a g) (hs : σ a = .inr (c, fs)) (ht : fs[4]? = some (fR r)) (hc : σ r = .inl (ty, m, .inl gc)) : gc = g := by
  obtain ⟨r', o', -, -, h4⟩ := h
  have e := fOb_u o' hs ht
  cases e
  rw [hc] at h4
  cases h4
  rfl
theorem fPu_u {K : Nat → Nat} {n : Nat} {σ : Nat → jcell} {a : Nat} {g g' : Nat → Int64} (h : fPu K n σ a g) (h' : fPu K n σ a g') : g = g' := by
  obtain ⟨r, ⟨-, -, c, fs, e1, e2⟩, -, -, h3⟩ := h
  obtain ⟨r', o', -, -, h4⟩ := h'
  have e := fOb_u o' e1 e2
  cases e
  rw [h3] at h4
  cases h4
  rfl
theorem fPu_c {K : Nat → Nat} {n : Nat} {σ : Nat → jcell} {a c r m : Nat} {ty : FieldType} {fs : List jv} {g gc : Nat → Int64} (h : fPu K n σ a g) (hs : σ a = .inr (c, fs)) (ht : fs[5]? = some (fR r)) (hc : σ r = .inl (ty, m, .inr (.inl gc))) : gc = g := by
  obtain ⟨r', o', -, -, h4⟩ := h
  have e := fOb_u o' hs ht
  cases e
  rw [hc] at h4
  cases h4
  rfl
theorem fPc_mk {K : Nat → Nat} {n : Nat} {σ : Nat → jcell} (hH : aH fa_T K n σ) {a c r : Nat} {fs : List jv} (ha : a < n) (hk : K a = 19) (hs : σ a = .inr (c, fs)) (ht : fs[4]? = some (fR r)) (hr : r < n) (hkr : K r = 20) : ∃ g, fPc K n σ a g := by
  obtain ⟨g, e⟩ := fRow hH hr hkr (q := (.int, 4, (0, 32767), [])) rfl (by intro h; cases h)
  exact ⟨g, r, ⟨ha, hk, c, fs, hs, ht⟩, hr, hkr, e⟩
theorem fPu_mk {K : Nat → Nat} {n : Nat} {σ : Nat → jcell} (hH : aH fa_T K n σ) {a c r : Nat} {fs : List jv} (ha : a < n) (hk : K a = 19) (hs : σ a = .inr (c, fs)) (ht : fs[5]? = some (fR r)) (hr : r < n) (hkr : K r = 21) : ∃ g, fPu K n σ a g := by
  obtain ⟨g, e⟩ := aCe_larr (q := (.long, 4, _)) (hH r hr _ (by rw [hkr]; rfl)) rfl
  exact ⟨g, r, ⟨ha, hk, c, fs, hs, ht⟩, hr, hkr, e⟩
theorem fPu_st {K : Nat → Nat} {n : Nat} {σ : Nat → jcell} {a c r i : Nat} {x : Int64} {fs : List jv} {g : Nat → Int64} (h : fPu K n σ a g) (hs : σ a = .inr (c, fs)) (ht : fs[5]? = some (fR r)) : fPu K n (jup σ r (jstl (σ r) i x)) a (vp_updL g i x) := by
  obtain ⟨r', o', l1, l2, h4⟩ := h
  have e := fOb_u o' hs ht
  cases e
  have n1 : a ≠ r := fun e => (by decide : ¬ (19 : Nat) = 21) (by rw [← o'.2.1, e]; exact l2)
  exact ⟨r, ⟨o'.1, o'.2.1, c, fs, by rw [jup_n n1]; exact hs, ht⟩, l1, l2, by rw [jup_s, h4]; rfl⟩
theorem fLn_s (g : Nat → Int32) (q : fQ) (i k : Nat) : fLn g q i (k + 1) = (fM q.1 q.2 (g i) ∧ fLn g (fPl q (g i)) (i + 1) k) := rfl
theorem fSh_1 {p : fP} {m : Int32} {q : fQ} (h : fSh p [.inl m] = .inl q) : ∃ q', p = .inl q' ∧ q = fPl q' m := by
  rcases p with p | p
  · exact ⟨p, rfl, (Sum.inl.inj h).symm⟩
  · cases h
theorem fI0 {x y : Int32} (h : x.toInt = y.toInt) : x = y := Int32.toInt_inj.mp h

