/-! the reference: texts, sizes of subtrees, the third table's words -/
def rCh9 (K : Nat → Nat) (n : Nat) (σ : Nat → jcell) (a k f kr len : Nat) (g : Nat → Int32) : Prop := ∃ r, rOb K n σ a k f (rR r) ∧ r < n ∧ K r = kr ∧ σ r = .inl (.char, len, .inl g)
theorem rCh9_u {K : Nat → Nat} {n : Nat} {σ : Nat → jcell} {a k k' f kr kr' len len' : Nat} {g g' : Nat → Int32} (h : rCh9 K n σ a k f kr len g) (h' : rCh9 K n σ a k' f kr' len' g') : g = g' := by
  obtain ⟨r, o, -, -, e⟩ := h
  obtain ⟨r', o', -, -, e'⟩ := h'
  cases rOb_u o o'
  rw [e] at e'
  cases e'
  rfl
theorem rCh9_c {K : Nat → Nat} {n : Nat} {σ : Nat → jcell} {a b k f kr len c m i : Nat} {fs : List jv} {ty : FieldType} {g g' : Nat → Int32} (h : rCh9 K n σ a k f kr len g') (e1 : σ a = .inr (c, fs)) (e2 : fs[f]? = some (rR b)) (e3 : σ b = .inl (ty, m, .inl g)) {v : Int32} (hv : v = g i) : (g' i).toInt = v.toInt := by
  obtain ⟨r, ⟨-, -, c', fs', e4, e5⟩, -, -, e6⟩ := h
  rw [e1] at e4
  cases e4
  rw [e2] at e5
  cases e5
  rw [e3] at e6
  cases e6
  rw [hv]
theorem rCh9_st {K : Nat → Nat} {n : Nat} {σ σ' : Nat → jcell} {vs : List jv} {d : List aDe} (h : ∀ a, a < n → ∀ q ∈ d, q.1 = K a → aSm vs q (σ a) (σ' a)) {a k f kr len : Nat} {F : List Nat} {z : Option aF} {g : Nat → Int32} (hq : (k, F, z) ∈ d) (hf : f ∈ F) (hr : (kr, [], none) ∈ d) (ho : rCh9 K n σ a k f kr len g) : rCh9 K n σ' a k f kr len g := by
  obtain ⟨r, o, h1, h2, e⟩ := ho
  refine ⟨r, rOb_st h hq hf o, h1, h2, ?_⟩
  rcases h r h1 _ hr h2.symm with e1 | ⟨c', f1, f2, e3, e4, -, e5⟩ | ⟨ty, m, g1, g2, f', z', e0, -⟩
  · rw [e1]; exact e
  · rw [e3] at e
    cases e
  · cases e0
theorem rTxt_ex {K : Nat → Nat} {n : Nat} {σ : Nat → jcell} (hH : aH fa_T K n σ) {a : Nat} (ha : a < n) (hk : K a = 62) : ∃ g, rCh9 K n σ a 62 2 63 65536 g := by
  have h1 := hH a ha _ (by rw [hk]; exact (rfl : fa_T[62]? = _))
  match e : σ a, h1 with
  | .inr (c', fs), h1 =>
    obtain ⟨-, hl, h2⟩ := h1
    have hf : 2 < fs.length := by rw [hl]; decide
    obtain ⟨r, e2, h3, h4⟩ := rG_ref (k := 63) (by decide) (h2 2 _ _ rfl (List.getElem?_eq_getElem hf))
    have h5 := hH r h3 _ (by rw [h4]; exact (rfl : fa_T[63]? = _))
    obtain ⟨g, e3, -⟩ := aCe_arr h5 (show ¬ FieldType.char = FieldType.long by decide)
    exact ⟨g, r, ⟨ha, hk, c', fs, e, by rw [List.getElem?_eq_getElem hf, e2]⟩, h3, h4, e3⟩
  | .inl x, h1 => exact h1.elim
/-- the text, where it is read, how much there is of it -/
def rAt9 (K : Nat → Nat) (n : Nat) (σ : Nat → jcell) (a : Nat) (g : Nat → Int32) (t e : Int32) : Prop := rCh9 K n σ a 62 2 63 65536 g ∧ rOb K n σ a 62 37 (rI t) ∧ rOb K n σ a 62 1 (rI e)
theorem rAt9_u {K : Nat → Nat} {n : Nat} {σ : Nat → jcell} {a : Nat} {g g' : Nat → Int32} {t e t' e' : Int32} (h : rAt9 K n σ a g t e) (h' : rAt9 K n σ a g' t' e') : g = g' ∧ t = t' ∧ e = e' := by
  obtain ⟨h1, h2, h3⟩ := h
  obtain ⟨h4, h5, h6⟩ := h'
  have e1 := rOb_u h2 h5
  have e2 := rOb_u h3 h6
  exact ⟨rCh9_u h1 h4, Sum.inl.inj e1, Sum.inl.inj e2⟩
def rLk9 (g : Nat → Int32) (t e : Int) : Int := if t < e then (g t.toNat).toInt else 0
def rGw9 (g : Nat → Int32) (t e c1 c2 c3 : Int) : Prop := t + 2 < e ∧ (g t.toNat).toInt = c1 ∧ (g (t + 1).toNat).toInt = c2 ∧ (g (t + 2).toNat).toInt = c3
def rHf9 (g : Nat → Int32) (t e : Int) : Prop := rGw9 g t e 49 47 50 ∧ t + 6 < e ∧ (g (t + 3).toNat).toInt = 45 ∧ (g (t + 4).toNat).toInt = 49 ∧ (g (t + 5).toNat).toInt = 47 ∧ (g (t + 6).toNat).toInt = 50
def rRQ9 (g : Nat → Int32) (t e : Int) : Prop := rLk9 g t e = 42 ∨ rGw9 g t e 49 45 48 ∨ rGw9 g t e 48 45 49 ∨ rHf9 g t e
/-! sizes of subtrees -/
def rBb (pa : Int → Int) (u k : Int) : Bool := rRec pa (decide (u = 0)) (fun k b => decide (k = u) || b) 301 k
def rSz (C : Int) (pa : Int → Int) (k : Int) : Int := (((List.range (C.toNat + 1)).countP (fun (j : Nat) => rBb pa k (j : Int)) : Nat) : Int)
theorem rBb_s {C : Int} {pa : Int → Int} (hC : C ≤ 300) (h : rPrs C pa) {u k : Int} (k0 : 1 ≤ k) (k1 : k ≤ C) : rBb pa u k = (decide (k = u) || rBb pa u (pa k)) := rRec_s hC h k0 k1
theorem rBb_0 {pa : Int → Int} {u : Int} : rBb pa u 0 = decide (u = 0) := rRec_0
theorem rBb_l {C : Int} {pa : Int → Int} (hC : C ≤ 300) (h : rPrs C pa) {u : Int} : ∀ k, 0 ≤ k → k ≤ C → rBb pa u k = true → u ≤ k := by
  refine rInd h (P := fun k => rBb pa u k = true → u ≤ k) ?_ ?_
  · intro h1
    rw [rBb_0] at h1
    have := of_decide_eq_true h1
    omega
  · intro k k0 k1 ih h1
    rw [rBb_s hC h k0 k1, Bool.or_eq_true] at h1
    have := h k k0 k1
    rcases h1 with h1 | h1
    · have := of_decide_eq_true h1
      omega
    · have := ih h1
      omega
theorem rBb_r {C : Int} {pa : Int → Int} (hC : C ≤ 300) (h : rPrs C pa) {k : Int} (k0 : 0 ≤ k) (k1 : k ≤ C) : rBb pa k k = true := by
  by_cases c : k = 0
  · rw [c, rBb_0]; rfl
  · rw [rBb_s hC h (by omega) k1, Bool.or_eq_true]
    exact Or.inl (decide_eq_true rfl)
theorem rBb_up {C : Int} {pa : Int → Int} (hC : C ≤ 300) (h : rPrs C pa) {c : Int} (c0 : 1 ≤ c) (c1 : c ≤ C) : ∀ j, 0 ≤ j → j ≤ C → rBb pa c j = true → rBb pa (pa c) j = true := by
  have hc := h c c0 c1
  refine rInd h (P := fun j => rBb pa c j = true → rBb pa (pa c) j = true) ?_ ?_
  · intro h1
    rw [rBb_0] at h1
    have := of_decide_eq_true h1
    omega
  · intro j j0 j1 ih h1
    rw [rBb_s hC h j0 j1, Bool.or_eq_true] at h1 ⊢
    refine Or.inr ?_
    rcases h1 with h1 | h1
    · rw [of_decide_eq_true h1]
      exact rBb_r hC h hc.1 (by omega)
    · exact ih h1
theorem rBb_uq {C : Int} {pa : Int → Int} (hC : C ≤ 300) (h : rPrs C pa) {c d : Int} (c0 : 1 ≤ c) (c1 : c ≤ C) (d0 : 1 ≤ d) (d1 : d ≤ C) (hp : pa c = pa d) : ∀ j, 0 ≤ j → j ≤ C → rBb pa c j = true → rBb pa d j = true → c = d := by
  have hc := h c c0 c1
  have hd := h d d0 d1
  refine rInd h (P := fun j => rBb pa c j = true → rBb pa d j = true → c = d) ?_ ?_
  · intro h1
    rw [rBb_0] at h1
    have := of_decide_eq_true h1
    omega
  · intro j j0 j1 ih h1 h2
    rw [rBb_s hC h j0 j1, Bool.or_eq_true] at h1 h2
    rcases h1 with h1 | h1
    · have e1 := of_decide_eq_true h1
      rcases h2 with h2 | h2
      · have e2 := of_decide_eq_true h2
        omega
      · rw [e1] at h2
        have := rBb_l hC h (pa c) hc.1 (by omega) h2
        omega
    · rcases h2 with h2 | h2
      · have e2 := of_decide_eq_true h2
        rw [e2] at h1
        have := rBb_l hC h (pa d) hd.1 (by omega) h1
        omega
      · exact ih h1 h2
theorem rCp_sum {α : Type} {P : α → Nat → Bool} {R Q : Nat → Bool} {L : List α} : ∀ {xs : List Nat}, (∀ j ∈ xs, L.countP (fun c => P c j) + (if Q j = true then 1 else 0) ≤ (if R j = true then 1 else 0)) → (L.map (fun c => xs.countP (P c))).sum + xs.countP Q ≤ xs.countP R
  | [], _ => by
    have e : ∀ (M : List α), (M.map (fun c => ([] : List Nat).countP (P c))).sum = 0 := fun M => by
      induction M with
      | nil => rfl
      | cons a M ih => rw [List.map_cons, List.sum_cons, ih]; rfl
    rw [e L]
    exact Nat.le_refl _
  | x :: xs, h => by
    have ih := rCp_sum (xs := xs) (fun j hj => h j (List.mem_cons_of_mem _ hj))
    have hx := h x List.mem_cons_self
    have e : ∀ (M : List α), (M.map (fun c => (x :: xs).countP (P c))).sum = (M.map (fun c => xs.countP (P c))).sum + M.countP (fun c => P c x) := fun M => by
      induction M with
      | nil => rfl
      | cons a M ih =>
        rw [List.map_cons, List.sum_cons, ih, List.map_cons, List.sum_cons, List.countP_cons, List.countP_cons]
        omega
    rw [e L, List.countP_cons, List.countP_cons]
    omega
theorem rCp_one {L : List Int} {P : Int → Bool} (hn : L.Nodup) (hu : ∀ c ∈ L, ∀ d ∈ L, P c = true → P d = true → c = d) : L.countP P ≤ 1 := by
  induction L with
  | nil => exact Nat.zero_le _
  | cons a L ih =>
    have hn2 := List.nodup_cons.mp hn
    rw [List.countP_cons]
    by_cases c : P a = true
    · have h0 : L.countP P = 0 := List.countP_eq_zero.mpr (fun d hd hp => hn2.1 (by rw [hu a List.mem_cons_self d (List.mem_cons_of_mem _ hd) c hp]; exact hd))
      rw [h0, if_pos c]
      omega
    · rw [if_neg c]
      have := ih hn2.2 (fun c hc d hd => hu c (List.mem_cons_of_mem _ hc) d (List.mem_cons_of_mem _ hd))
      omega
def rSum (C : Int) (pa : Int → Int) : List Int → Int
  | [] => 0
  | c :: r => rSz C pa c + rSum C pa r
theorem rSum_e {C : Int} {pa : Int → Int} : ∀ {L : List Int}, rSum C pa L = ((L.map (fun c => (List.range (C.toNat + 1)).countP (fun (j : Nat) => rBb pa c (j : Int)))).sum : Nat)
  | [] => rfl
  | c :: r => by
    rw [List.map_cons, List.sum_cons]
    show rSz C pa c + rSum C pa r = _
    rw [rSum_e (L := r), Int.natCast_add]
    rfl
theorem rSz_ch {C : Int} {pa : Int → Int} (c0 : 0 ≤ C) (hC : C ≤ 300) (h : rPrs C pa) {k : Int} (k0 : 0 ≤ k) (k1 : k ≤ C) {L : List Int} (hn : L.Nodup) (hL : ∀ c, c ∈ L ↔ 1 ≤ c ∧ c ≤ C ∧ pa c = k) : rSum C pa L + 1 ≤ rSz C pa k := by
  have hs := rCp_sum (P := fun (c : Int) (j : Nat) => rBb pa c (j : Int)) (R := fun j => rBb pa k (j : Int)) (Q := fun j => decide ((j : Int) = k)) (L := L) (xs := List.range (C.toNat + 1)) (fun j hj => by
    have hjr := List.mem_range.mp hj
    have h1 : L.countP (fun c => rBb pa c (j : Int)) ≤ 1 := rCp_one hn (fun c hc d hd p1 p2 => by
      have a1 := (hL c).mp hc
      have a2 := (hL d).mp hd
      exact rBb_uq hC h a1.1 a1.2.1 a2.1 a2.2.1 (by rw [a1.2.2, a2.2.2]) j (by omega) (by omega) p1 p2)
    by_cases cz : L.countP (fun c => rBb pa c (j : Int)) = 0
    · rw [cz]
      by_cases cj : (j : Int) = k
      · rw [if_pos (decide_eq_true cj), if_pos (by rw [cj]; exact rBb_r hC h k0 k1)]
        exact Nat.le_refl _
      · rw [if_neg (fun h9 => cj (of_decide_eq_true h9))]
        omega
    · obtain ⟨c, hc, hp⟩ : ∃ c ∈ L, rBb pa c (j : Int) = true := List.countP_pos_iff.mp (by omega)
      have a1 := (hL c).mp hc
      have a2 := h c a1.1 a1.2.1
      have hup := rBb_up hC h a1.1 a1.2.1 j (by omega) (by omega) hp
      rw [a1.2.2] at hup
      have hle := rBb_l hC h j (by omega) (by omega) hp
      rw [if_pos hup, if_neg (fun h9 => by have := of_decide_eq_true h9; omega)]
      omega)
  have h2 : 1 ≤ (List.range (C.toNat + 1)).countP (fun (j : Nat) => decide ((j : Int) = k)) := List.countP_pos_iff.mpr ⟨k.toNat, List.mem_range.mpr (by omega), decide_eq_true (by omega)⟩
  rw [rSum_e]
  unfold rSz
  omega
theorem rSz_0 {C : Int} {pa : Int → Int} (c0 : 0 ≤ C) {k : Int} : rSz C pa k ≤ C + 1 := by
  unfold rSz
  have := List.countP_le_length (p := fun (j : Nat) => rBb pa k (j : Int)) (l := List.range (C.toNat + 1))
  rw [List.length_range] at this
  omega
theorem rSz_p {C : Int} {pa : Int → Int} (hC : C ≤ 300) (h : rPrs C pa) {k : Int} (k0 : 0 ≤ k) (k1 : k ≤ C) : 1 ≤ rSz C pa k := by
  unfold rSz
  have : 0 < (List.range (C.toNat + 1)).countP (fun (j : Nat) => rBb pa k (j : Int)) := List.countP_pos_iff.mpr ⟨k.toNat, List.mem_range.mpr (by omega), by rw [show ((k.toNat : Nat) : Int) = k by omega]; exact rBb_r hC h k0 k1⟩
  omega
theorem rSum_n {C : Int} {pa : Int → Int} : ∀ {L : List Int}, 0 ≤ rSum C pa L
  | [] => Int.le_refl _
  | c :: r => by
    have := rSum_n (C := C) (pa := pa) (L := r)
    show 0 ≤ rSz C pa c + rSum C pa r
    unfold rSz
    omega
/-- a chain of nodes from x on, of those from N + 1 on, and what their subtrees have -/
def rSs (N C : Int) (y : rY) (x s : Int) : Prop := ∃ L, rCn y.2.2.2.1 x L ∧ (∀ c ∈ L, 1 ≤ c ∧ c ≤ C ∧ N + 1 ≤ c) ∧ s = rSum C y.1 L
def rV1s (M : Int → Int) (s : Int) : Prop := M s = 0 ∨ (0 ≤ s ∧ s ≤ 63 ∧ ((1 ≤ M s ∧ M s ≤ 6) ∨ (9 ≤ M s ∧ M s ≤ 14)))
def rPthM (K : Nat → Nat) (n : Nat) (σ : Nat → jcell) (a : Nat) (y : rY) (nd b : Int) : Prop := ∃ g, rRo K n σ a 55 17 60 301 g ∧ ∀ i, 0 ≤ i → i < b → (g i.toNat).toInt = rUa y.1 i.toNat nd ∧ 1 ≤ rUa y.1 i.toNat nd
def rSt3 (K : Nat → Nat) (n : Nat) (σ : Nat → jcell) (a : Nat) (o : Int) (pa mo : Int → Int) (q0 : rQ) : Prop := rRy9 K n σ a 8 66 o pa ∧ rRy9 K n σ a 9 67 o mo ∧ ∃ z, rSt9 K n σ a o q0 z
theorem rSt3_u {K : Nat → Nat} {n : Nat} {σ : Nat → jcell} {a : Nat} {o : Int} {pa mo pa' mo' : Int → Int} {q0 q0' : rQ} (h : rSt3 K n σ a o pa mo q0) (h' : rSt3 K n σ a o pa' mo' q0') : pa = pa' ∧ mo = mo' ∧ q0 = q0' := by
  obtain ⟨h1, h2, z, h3⟩ := h
  obtain ⟨h4, h5, z', h6⟩ := h'
  exact ⟨rRy9_u h1 h4, rRy9_u h2 h5, (rSt9_u h3 h6).1⟩
theorem rSt3_y {K : Nat → Nat} {n : Nat} {σ : Nat → jcell} {a : Nat} {o : Int} {y : rY} (h : rTy K n σ a o y) : rSt3 K n σ a o y.1 y.2.1 y.2.2.2.2.1 := ⟨h.1, h.2.1, _, h.2.2.2.2⟩
theorem rSh_w {p : rP} {w : Int32} {z : Int} (h : (rSh rS1 p [rI w, rI w]).2 = some z) : z = w.toInt := by
  obtain ⟨q, o⟩ := p
  rcases o with _ | x
  · cases h
  · exact (Option.some.inj h).symm
theorem rSh_w2 {p : rP} {w : Int32} {z : Int} (h : p.2 = some z) : (rSh rS1 p [rI w, rI w]).2 = some w.toInt := by
  obtain ⟨q, o⟩ := p
  obtain rfl : o = some z := h
  rfl
theorem rI32w {z : Int} (h0 : 0 ≤ z) (h1 : z ≤ 100000) : ∃ x : Int32, x.toInt = z := ⟨Int32.ofInt z, by rw [Int32.toInt_ofInt_of_le (by omega) (by omega)]⟩
theorem rTy_up {K : Nat → Nat} {n : Nat} {σ : Nat → jcell} {a b c f kr : Nat} {o : Int} {fs : List jv} {fn : Int → Int} {i v : Int32} (h : rRy9 K n σ a f kr o fn) (e1 : σ a = .inr (c, fs)) (e2 : fs[f]? = some (rR b)) (hi : ¬ (301 * o ≤ i.toInt ∧ i.toInt ≤ 301 * o + 300)) : ∃ fn', rRy9 K n (jup σ b (jsto (σ b) i.toNatClampNeg v)) a f kr o fn' ∧ ∀ k, 0 ≤ 301 * o + k → 0 ≤ k → k ≤ 300 → 0 ≤ i.toInt → fn' k = fn k := by
  obtain ⟨g, h1, rfl⟩ := h
  refine ⟨_, ⟨_, rRo_up h1 e1 e2, rfl⟩, fun k k0 k1 k2 k3 => ?_⟩
  show ((upd g i.toNatClampNeg v) (301 * o + k).toNat).toInt = (g (301 * o + k).toNat).toInt
  unfold upd
  have hi2 : i.toNatClampNeg = i.toInt.toNat := rfl
  rw [if_neg (by rw [hi2]; omega)]
theorem rCh9_o {K : Nat → Nat} {n : Nat} {σ : Nat → jcell} {a k f kr len b : Nat} {g : Nat → Int32} {c : jcell} (h : rCh9 K n σ a k f kr len g) (hb : ¬ K b = k) (hb2 : ¬ K b = kr) : rCh9 K n (jup σ b c) a k f kr len g := by
  obtain ⟨r, o, h1, h2, e⟩ := h
  refine ⟨r, rOb_o o hb, h1, h2, ?_⟩
  rw [jup_n (fun e2 => hb2 (by rw [← e2]; exact h2))]
  exact e
/-- the other game is not touched by a store into one of the tree's rows -/
theorem rTY_ot {K : Nat → Nat} {n : Nat} {σ : Nat → jcell} {a b c f kr : Nat} {o C : Int} {fs : List jv} {y : rY} {i v : Int32} (h : rTY K n σ a o C y) (h0 : 0 ≤ o) (hf : (f = 8 ∧ kr = 66) ∨ (f = 9 ∧ kr = 67) ∨ (f = 10 ∧ kr = 68) ∨ (f = 11 ∧ kr = 69)) (e1 : σ a = .inr (c, fs)) (e2 : fs[f]? = some (rR b)) (hb : K b = kr) (i0 : 0 ≤ i.toInt) (hi : ¬ (301 * o ≤ i.toInt ∧ i.toInt ≤ 301 * o + 300)) : ∃ y', rTY K n (jup σ b (jsto (σ b) i.toNatClampNeg v)) a o C y' := by
  obtain ⟨⟨h1, h2, h3, h4, g5, g6, r5, r6, e5, e6⟩, ⟨gC, rC, eC⟩, hT⟩ := h
  have hC := hT.1.2.1
  have ho : ∀ (f' kr' : Nat) (u : Int → Int), ¬ kr' = kr → ¬ kr = 62 → rRy9 K n σ a f' kr' o u → rRy9 K n (jup σ b (jsto (σ b) i.toNatClampNeg v)) a f' kr' o u := fun f' kr' u hk1 hk2 hu => by
    obtain ⟨g, r, e⟩ := hu
    exact ⟨g, rRo_o r (by omega) (by omega), e⟩
  have hS : rSt9 K n (jup σ b (jsto (σ b) i.toNatClampNeg v)) a o y.2.2.2.2.1 y.2.2.2.2.2 := ⟨g5, g6, rRo_o r5 (by omega) (by omega), rRo_o r6 (by omega) (by omega), e5, e6⟩
  have hCt : rCt9 K n (jup σ b (jsto (σ b) i.toNatClampNeg v)) a o C := ⟨gC, rRo_o rC (by omega) (by omega), eC⟩
  rcases hf with ⟨rfl, rfl⟩ | ⟨rfl, rfl⟩ | ⟨rfl, rfl⟩ | ⟨rfl, rfl⟩
  · obtain ⟨u, hu, he⟩ := rTy_up (v := v) h1 e1 e2 hi
    exact ⟨(u, y.2), ⟨hu, ho _ _ _ (by omega) (by omega) h2, ho _ _ _ (by omega) (by omega) h3, ho _ _ _ (by omega) (by omega) h4, hS⟩, hCt, (rTr_cg (y' := (u, y.2)) hT (fun k k0 k1 => he k (by omega) k0 (by omega) i0) (fun _ _ _ => rfl) (fun _ _ _ => rfl) (fun _ _ _ => rfl) rfl).1⟩
  · obtain ⟨u, hu, he⟩ := rTy_up (v := v) h2 e1 e2 hi
    exact ⟨(y.1, u, y.2.2), ⟨ho _ _ _ (by omega) (by omega) h1, hu, ho _ _ _ (by omega) (by omega) h3, ho _ _ _ (by omega) (by omega) h4, hS⟩, hCt, (rTr_cg (y' := (y.1, u, y.2.2)) hT (fun _ _ _ => rfl) (fun k k0 k1 => he k (by omega) k0 (by omega) i0) (fun _ _ _ => rfl) (fun _ _ _ => rfl) rfl).1⟩
  · obtain ⟨u, hu, he⟩ := rTy_up (v := v) h3 e1 e2 hi
    exact ⟨(y.1, y.2.1, u, y.2.2.2), ⟨ho _ _ _ (by omega) (by omega) h1, ho _ _ _ (by omega) (by omega) h2, hu, ho _ _ _ (by omega) (by omega) h4, hS⟩, hCt, (rTr_cg (y' := (y.1, y.2.1, u, y.2.2.2)) hT (fun _ _ _ => rfl) (fun _ _ _ => rfl) (fun k k0 k1 => he k (by omega) k0 (by omega) i0) (fun _ _ _ => rfl) rfl).1⟩
  · obtain ⟨u, hu, he⟩ := rTy_up (v := v) h4 e1 e2 hi
    exact ⟨(y.1, y.2.1, y.2.2.1, u, y.2.2.2.2), ⟨ho _ _ _ (by omega) (by omega) h1, ho _ _ _ (by omega) (by omega) h2, ho _ _ _ (by omega) (by omega) h3, hu, hS⟩, hCt, (rTr_cg (y' := (y.1, y.2.1, y.2.2.1, u, y.2.2.2.2)) hT (fun _ _ _ => rfl) (fun _ _ _ => rfl) (fun _ _ _ => rfl) (fun k k0 k1 => he k (by omega) k0 (by omega) i0) rfl).1⟩
