/-! the reference: pictures of its cells -/
abbrev rI (x : Int32) : jv := .inl x
abbrev rL (x : Int64) : jv := .inr (.inl x)
abbrev rR (a : Nat) : jv := .inr (.inr (some (.inl a)))
theorem rG_ref {K : Nat → Nat} {n k : Nat} (h9 : ¬ k = 99999) {v : jv} (h : aG K n (.inr (some (.inl (false, k)))) v) : ∃ a, v = rR a ∧ a < n ∧ K a = k := aG_obj h9 h
theorem rG_any {K : Nat → Nat} {n : Nat} {v : jv} (h : aG K n (.inr (some (.inl (false, 99999)))) v) : ∃ a, v = rR a ∧ a < n := by
  rcases aG_ref h with h | ⟨a, e, h1, -⟩
  · cases h.1
  · exact ⟨a, e, h1⟩
def rOb (K : Nat → Nat) (n : Nat) (σ : Nat → jcell) (a k f : Nat) (v : jv) : Prop := a < n ∧ K a = k ∧ ∃ (c : Nat) (fs : List jv), σ a = .inr (c, fs) ∧ fs[f]? = some v
def rRo (K : Nat → Nat) (n : Nat) (σ : Nat → jcell) (a k f kr len : Nat) (g : Nat → Int32) : Prop := ∃ r, rOb K n σ a k f (rR r) ∧ r < n ∧ K r = kr ∧ σ r = .inl (.int, len, .inl g)
theorem rOb_u {K : Nat → Nat} {n : Nat} {σ : Nat → jcell} {a k k' f : Nat} {v v' : jv} (h : rOb K n σ a k f v) (h' : rOb K n σ a k' f v') : v = v' := by
  obtain ⟨-, -, c, fs, e1, e2⟩ := h
  obtain ⟨-, -, c', fs', e1', e2'⟩ := h'
  rw [e1] at e1'
  cases e1'
  rw [e2] at e2'
  exact Option.some.inj e2'
theorem rRo_u {K : Nat → Nat} {n : Nat} {σ : Nat → jcell} {a k k' f kr kr' len len' : Nat} {g g' : Nat → Int32} (h : rRo K n σ a k f kr len g) (h' : rRo K n σ a k' f kr' len' g') : g = g' := by
  obtain ⟨r, o, -, -, e⟩ := h
  obtain ⟨r', o', -, -, e'⟩ := h'
  cases rOb_u o o'
  rw [e] at e'
  cases e'
  rfl
theorem rOb_st {K : Nat → Nat} {n : Nat} {σ σ' : Nat → jcell} {vs : List jv} {d : List aDe} (h : ∀ a, a < n → ∀ q ∈ d, q.1 = K a → aSm vs q (σ a) (σ' a)) {a k f : Nat} {F : List Nat} {z : Option aF} {v : jv} (hq : (k, F, z) ∈ d) (hf : f ∈ F) (ho : rOb K n σ a k f v) : rOb K n σ' a k f v := by
  obtain ⟨h1, h2, c, fs, e1, e2⟩ := ho
  refine ⟨h1, h2, ?_⟩
  rcases h a h1 (k, F, z) hq h2.symm with e | ⟨c', f1, f2, e3, e4, -, e5⟩ | ⟨ty, m, g, g', f', z', -, -, e3, -⟩
  · exact ⟨c, fs, by rw [e]; exact e1, e2⟩
  · rw [e3] at e1
    cases e1
    exact ⟨_, f2, e4, by rw [e5 f hf]; exact e2⟩
  · rw [e3] at e1
    cases e1
theorem rRo_st {K : Nat → Nat} {n : Nat} {σ σ' : Nat → jcell} {vs : List jv} {d : List aDe} (h : ∀ a, a < n → ∀ q ∈ d, q.1 = K a → aSm vs q (σ a) (σ' a)) {a k f kr len : Nat} {F : List Nat} {z : Option aF} {g : Nat → Int32} (hq : (k, F, z) ∈ d) (hf : f ∈ F) (hr : (kr, [], none) ∈ d) (ho : rRo K n σ a k f kr len g) : rRo K n σ' a k f kr len g := by
  obtain ⟨r, o, h1, h2, e⟩ := ho
  refine ⟨r, rOb_st h hq hf o, h1, h2, ?_⟩
  rcases h r h1 _ hr h2.symm with e1 | ⟨c', f1, f2, e3, e4, -, e5⟩ | ⟨ty, m, g1, g2, f', z', e0, -⟩
  · rw [e1]; exact e
  · rw [e3] at e
    cases e
  · cases e0
/-- rows of which the cells below a bound alone are looked at -/
theorem rRo_sb {K : Nat → Nat} {n : Nat} {σ σ' : Nat → jcell} {vs : List jv} {d : List aDe} (h : ∀ a, a < n → ∀ q ∈ d, q.1 = K a → aSm vs q (σ a) (σ' a)) {a k f kr len : Nat} {F : List Nat} {z : Option aF} {fo : aF} {b : Int} {g : Nat → Int32} (hq : (k, F, z) ∈ d) (hf : f ∈ F) (hr : (kr, [], some fo) ∈ d) (hb : ∀ x, aVa vs fo x → x = b) (ho : rRo K n σ a k f kr len g) : ∃ g', rRo K n σ' a k f kr len g' ∧ ∀ i : Nat, (i : Int) < b → g' i = g i := by
  obtain ⟨r, o, h1, h2, e⟩ := ho
  rcases h r h1 _ hr h2.symm with e1 | ⟨c', f1, f2, e3, e4, -, e5⟩ | ⟨ty, m, g1, g2, f', z', e0, e1, e2, e3, e4⟩
  · exact ⟨g, ⟨r, rOb_st h hq hf o, h1, h2, by rw [e1]; exact e⟩, fun _ _ => rfl⟩
  · rw [e3] at e
    cases e
  · cases e0
    rw [e2] at e
    cases e
    exact ⟨g2, ⟨r, rOb_st h hq hf o, h1, h2, e3⟩, fun i hi => e4 i (by rw [hb _ e1]; exact hi)⟩
/-- men: a row of 64, as a function of the square -/
def rMn (g : Nat → Int32) : Int → Int := fun i => if 0 ≤ i ∧ i ≤ 63 then (g i.toNat).toInt else 0
def rMg (ko f kr : Nat) (K : Nat → Nat) (n : Nat) (σ : Nat → jcell) (a : Nat) (M : Int → Int) : Prop := ∃ g, rRo K n σ a ko f kr 64 g ∧ M = rMn g
theorem rMg_u {ko f kr : Nat} {K : Nat → Nat} {n : Nat} {σ : Nat → jcell} {a : Nat} {M M' : Int → Int} (h : rMg ko f kr K n σ a M) (h' : rMg ko f kr K n σ a M') : M = M' := by
  obtain ⟨g, h1, rfl⟩ := h
  obtain ⟨g', h2, rfl⟩ := h'
  rw [rRo_u h1 h2]
theorem rMg_ex {ko f kr : Nat} {K : Nat → Nat} {n : Nat} {σ : Nat → jcell} (hH : aH fa_T K n σ) {a c : Nat} {ts : List aT} {iv : Int × Int} {el : List (Nat × Nat × Int × Int × Int)} (t1 : fa_T[ko]? = some (.inr (c, ts))) (t2 : ts[f]? = some (.inr (some (.inl (false, kr))))) (t3 : fa_T[kr]? = some (.inl (.int, 64, iv, el))) (h9 : ¬ kr = 99999) (ha : a < n) (hk : K a = ko) : ∃ M, rMg ko f kr K n σ a M := by
  have h1 := hH a ha _ (by rw [hk]; exact t1)
  match e : σ a, h1 with
  | .inr (c', fs), h1 =>
    obtain ⟨-, hl, h2⟩ := h1
    have hf : f < fs.length := by rw [hl]; exact (List.getElem?_eq_some_iff.mp t2).1
    obtain ⟨r, e2, h3, h4⟩ := rG_ref h9 (h2 f _ _ t2 (List.getElem?_eq_getElem hf))
    have h5 := hH r h3 _ (by rw [h4]; exact t3)
    obtain ⟨g, e3, -⟩ := aCe_arr h5 (show ¬ FieldType.int = FieldType.long by decide)
    exact ⟨_, g, ⟨r, ⟨ha, hk, c', fs, e, by rw [List.getElem?_eq_getElem hf, e2]⟩, h3, h4, e3⟩, rfl⟩
  | .inl x, h1 => exact h1.elim
theorem rMg_st {ko f kr : Nat} {K : Nat → Nat} {n : Nat} {σ σ' : Nat → jcell} {vs : List jv} {d : List aDe} (h : ∀ a, a < n → ∀ q ∈ d, q.1 = K a → aSm vs q (σ a) (σ' a)) {F : List Nat} {z : Option aF} (hq : (ko, F, z) ∈ d) (hf : f ∈ F) (hr : (kr, [], none) ∈ d) {a : Nat} {M : Int → Int} (hm : rMg ko f kr K n σ a M) : rMg ko f kr K n σ' a M := by
  obtain ⟨g, h1, e⟩ := hm
  exact ⟨g, rRo_st h hq hf hr h1, e⟩
theorem rMg_c {ko f kr : Nat} {K : Nat → Nat} {n : Nat} {σ : Nat → jcell} {a b c m : Nat} {fs : List jv} {ty : FieldType} {g : Nat → Int32} {M : Int → Int} (h : rMg ko f kr K n σ a M) (e1 : σ a = .inr (c, fs)) (e2 : fs[f]? = some (rR b)) (e3 : σ b = .inl (ty, m, .inl g)) {x : Int} {v : Int32} {i : Nat} (hi : (i : Int) = x) (h0 : 0 ≤ x) (h1 : x ≤ 63) (hv : v = g i) : M x = v.toInt := by
  obtain ⟨g', ⟨r, ⟨-, -, c', fs', e4, e5⟩, -, -, e6⟩, rfl⟩ := h
  rw [e1] at e4
  cases e4
  rw [e2] at e5
  cases e5
  rw [e3] at e6
  cases e6
  unfold rMn
  rw [if_pos ⟨h0, h1⟩, hv, show x.toNat = i by omega]
abbrev rMe := rMg 88 2 90
theorem rMe_ex {K : Nat → Nat} {n : Nat} {σ : Nat → jcell} (hH : aH fa_T K n σ) {a : Nat} (ha : a < n) (hk : K a = 88) : ∃ M, rMe K n σ a M := rMg_ex hH rfl rfl rfl (by decide) ha hk
/-! squares, steps, lines -/
def rSp (s f r : Int) : Int := if 0 ≤ s % 8 + f ∧ s % 8 + f ≤ 7 ∧ 0 ≤ s / 8 + r ∧ s / 8 + r ≤ 7 then s + f + 8 * r else -1
theorem rSp_r {s f r : Int} (h0 : 0 ≤ s) (h1 : s ≤ 63) : -1 ≤ rSp s f r ∧ rSp s f r ≤ 63 := by
  unfold rSp
  split <;> omega
/-- the first man from a square on -/
def rGn (M : Int → Int) (f r : Int) : Nat → Int → Option Int
  | 0, _ => none
  | k + 1, t => if t < 0 then some 0 else if M t = 0 then rGn M f r k (rSp t f r) else some (M t)
def rGf (M : Int → Int) (f r t m : Int) : Prop := ∃ k, rGn M f r k t = some m
theorem rGf_o {M : Int → Int} {f r t : Int} (h : t < 0) : rGf M f r t 0 := ⟨1, by unfold rGn; rw [if_pos h]⟩
theorem rGf_s {M : Int → Int} {f r t m : Int} (h : 0 ≤ t) (hm : M t = m) (h0 : ¬ m = 0) : rGf M f r t m := ⟨1, by unfold rGn; rw [if_neg (by omega), if_neg (by omega), hm]⟩
theorem rGf_n {M : Int → Int} {f r t m : Int} (h : 0 ≤ t) (hm : M t = 0) (h2 : rGf M f r (rSp t f r) m) : rGf M f r t m := by
  obtain ⟨k, e⟩ := h2
  exact ⟨k + 1, by unfold rGn; rw [if_neg (by omega), if_pos hm]; exact e⟩
theorem rGn_u {M : Int → Int} {f r : Int} : ∀ {k k' : Nat} {t m m' : Int}, rGn M f r k t = some m → rGn M f r k' t = some m' → m = m'
  | 0, _, _, _, _, h, _ => by cases h
  | _ + 1, 0, _, _, _, _, h => by cases h
  | k + 1, k' + 1, t, m, m', h, h' => by
    unfold rGn at h h'
    split at h
    next c =>
      rw [if_pos c] at h'
      rw [← Option.some.inj h, ← Option.some.inj h']
    next c =>
      rw [if_neg c] at h'
      split at h
      next c2 =>
        rw [if_pos c2] at h'
        exact rGn_u h h'
      next c2 =>
        rw [if_neg c2] at h'
        rw [← Option.some.inj h, ← Option.some.inj h']
theorem rGf_u {M : Int → Int} {f r t m m' : Int} (h : rGf M f r t m) (h' : rGf M f r t m') : m = m' := by
  obtain ⟨k, e⟩ := h
  obtain ⟨k', e'⟩ := h'
  exact rGn_u e e'
/-- where a walk comes to -/
def rWn (M : Int → Int) (f r : Int) : Nat → Int → Int → Prop
  | 0, _, _ => False
  | k + 1, t, u => 0 ≤ t ∧ (u = t ∨ (M t = 0 ∧ rWn M f r k (rSp t f r) u))
def rWf (M : Int → Int) (f r t u : Int) : Prop := ∃ k, rWn M f r k t u
theorem rWf_i {M : Int → Int} {f r t u : Int} : rWf M f r t u ↔ 0 ≤ t ∧ (u = t ∨ (M t = 0 ∧ rWf M f r (rSp t f r) u)) := by
  constructor
  · rintro ⟨k, h⟩
    cases k with
    | zero => exact h.elim
    | succ k =>
      refine ⟨h.1, ?_⟩
      rcases h.2 with e | ⟨e, h2⟩
      · exact Or.inl e
      · exact Or.inr ⟨e, k, h2⟩
  · rintro ⟨h, e | ⟨e, k, h2⟩⟩
    · exact ⟨1, h, Or.inl e⟩
    · exact ⟨k + 1, h, Or.inr ⟨e, h2⟩⟩
/-- a square is attacked by a side -/
def rP1 (M : Int → Int) (s b f : Int) : Prop := 0 ≤ rSp s f (2 * b - 1) ∧ M (rSp s f (2 * b - 1)) = 8 * b + 1
def rA1 (M : Int → Int) (s b f r : Int) : Prop := (f * f + r * r = 5 ∧ 0 ≤ rSp s f r ∧ M (rSp s f r) = 8 * b + 2) ∨ (1 ≤ f * f + r * r ∧ f * f + r * r ≤ 2 ∧ ((0 ≤ rSp s f r ∧ M (rSp s f r) = 8 * b + 6) ∨ ∃ m, rGf M f r (rSp s f r) m ∧ (m = 8 * b + 5 ∨ (f * f + r * r = 1 ∧ m = 8 * b + 4) ∨ (f * f + r * r = 2 ∧ m = 8 * b + 3))))
def rAk (M : Int → Int) (s b : Int) : Prop := rP1 M s b (-1) ∨ rP1 M s b 1 ∨ ∃ f r, -2 ≤ f ∧ f ≤ 2 ∧ -2 ≤ r ∧ r ≤ 2 ∧ rA1 M s b f r
/-- bits of a set of squares -/
def rBt (L : Int64) (u : Int) : Prop := L.toBitVec.getLsbD u.toNat = true
theorem rBt_or {A B : Int64} {u : Int} : rBt (A ||| B) u ↔ rBt A u ∨ rBt B u := by
  unfold rBt
  rw [Int64.toBitVec_or, BitVec.getLsbD_or, Bool.or_eq_true]
theorem rBt_0 {u : Int} : ¬ rBt 0 u := by
  unfold rBt
  rw [show (0 : Int64).toBitVec = 0#64 from rfl, BitVec.getLsbD_zero]
  exact Bool.false_ne_true
theorem rBt_l0 : ∀ (s u : Fin 64), ((1 : Int64) <<< ((Int32.ofNat s.val).toInt64 &&& 63)).toBitVec.getLsbD u.val = decide (u.val = s.val) := by decide +kernel
theorem rOf {x : Int32} (h : 0 ≤ x.toInt) : x = Int32.ofNat x.toInt.toNat := by
  rw [← Int32.toInt_inj, Int32.toInt_ofNat_of_lt (by have := x.toInt_lt; omega)]
  omega
theorem rBt_l {s : Int32} {L A : Int64} (hA : A = 1) (hL : L = A <<< (s.toInt64 &&& 63)) (h0 : 0 ≤ s.toInt) (h1 : s.toInt ≤ 63) {u : Int} (h2 : 0 ≤ u) (h3 : u ≤ 63) : rBt L u ↔ u = s.toInt := by
  unfold rBt
  rw [hL, hA, rOf h0]
  have h := rBt_l0 ⟨s.toInt.toNat, by omega⟩ ⟨u.toNat, by omega⟩
  dsimp only at h
  rw [h, decide_eq_true_iff]
  rw [← rOf h0]
  omega
/-- what a man of a kind reaches in one direction -/
def rR1 (M : Int → Int) (k s f r u : Int) : Prop := (((k = 2 ∧ f * f + r * r = 5) ∨ (k = 6 ∧ 1 ≤ f * f + r * r ∧ f * f + r * r ≤ 2)) ∧ 0 ≤ u ∧ u = rSp s f r) ∨ (((k = 4 ∧ f * f + r * r = 1) ∨ (k = 3 ∧ f * f + r * r = 2) ∨ (k = 5 ∧ 1 ≤ f * f + r * r ∧ f * f + r * r ≤ 2)) ∧ rWf M f r (rSp s f r) u)
def rRe (M : Int → Int) (k s u : Int) : Prop := ∃ f r, -2 ≤ f ∧ f ≤ 2 ∧ -2 ≤ r ∧ r ≤ 2 ∧ rR1 M k s f r u
/-- the king of a side -/
def rKg (M : Int → Int) (b s : Int) : Prop := 0 ≤ s ∧ s ≤ 63 ∧ M s = 8 * b + 6 ∧ ∀ j, 0 ≤ j → j < s → ¬ M j = 8 * b + 6
theorem rKg_u {M : Int → Int} {b s s' : Int} (h : rKg M b s) (h' : rKg M b s') : s = s' := by
  obtain ⟨a0, a1, a2, a3⟩ := h
  obtain ⟨b0, b1, b2, b3⟩ := h'
  by_cases c : s < s'
  · exact absurd a2 (b3 s a0 c)
  · by_cases c2 : s' < s
    · exact absurd b2 (a3 s' b0 c2)
    · omega
/-! operations on small numbers -/
theorem rMul {x y c : Int32} (e : c = x * y) (h0 : -1000 ≤ x.toInt) (h1 : x.toInt ≤ 1000) (h2 : -1000 ≤ y.toInt) (h3 : y.toInt ≤ 1000) : c.toInt = x.toInt * y.toInt := by
  have h4 : x.toInt * y.toInt ≤ 1000000 := by
    rcases Int.le_total 0 x.toInt with a | a
    · exact Int.le_trans (Int.mul_le_mul_of_nonneg_left h3 a) (by omega)
    · exact Int.le_trans (Int.mul_le_mul_of_nonpos_left a h2) (by omega)
  have h5 : -1000000 ≤ x.toInt * y.toInt := by
    rcases Int.le_total 0 x.toInt with a | a
    · exact Int.le_trans (by omega) (Int.mul_le_mul_of_nonneg_left h2 a)
    · exact Int.le_trans (by omega) (Int.mul_le_mul_of_nonpos_left a h3)
  rw [e, Int32.toInt_mul]
  exact Int.bmod_eq_of_le (by omega) (by omega)
theorem rAnd70 : ∀ (m : Fin 64), (Int32.ofNat m.val &&& 7).toInt = (m.val : Int) % 8 := by decide +kernel
theorem rAnd7 {x y c : Int32} (e : c = x &&& y) (hy : y.toInt = 7) (h0 : 0 ≤ x.toInt) (h1 : x.toInt ≤ 63) : c.toInt = x.toInt % 8 := by
  have ey : y = 7 := Int32.toInt_inj.mp (by rw [hy]; rfl)
  have h := rAnd70 ⟨x.toInt.toNat, by omega⟩
  dsimp only at h
  rw [← rOf h0] at h
  rw [e, ey, h]
  omega
theorem rShr30 : ∀ (m : Fin 64), (Int32.ofNat m.val >>> ((3 : Int32) &&& 31)).toInt = (m.val : Int) / 8 := by decide +kernel
theorem rShr3 {x y c : Int32} (e : c = x >>> (y &&& 31)) (hy : y.toInt = 3) (h0 : 0 ≤ x.toInt) (h1 : x.toInt ≤ 63) : c.toInt = x.toInt / 8 := by
  have ey : y = 3 := Int32.toInt_inj.mp (by rw [hy]; rfl)
  have h := rShr30 ⟨x.toInt.toNat, by omega⟩
  dsimp only at h
  rw [← rOf h0] at h
  rw [e, ey, h]
  omega
