/-! positions and moves of the reference -/
abbrev rQ : Type := (Int → Int) × Int × Int × Int
abbrev rP : Type := rQ × Option Int
def rUp (M : Int → Int) (s v : Int) : Int → Int := fun i => if i = s then v else M i
theorem rUp_s {M : Int → Int} {s v : Int} : rUp M s v s = v := if_pos rfl
theorem rUp_n {M : Int → Int} {s v i : Int} (h : ¬ i = s) : rUp M s v i = M i := if_neg h
def rFr (m : Int) : Int := m % 64
def rTo (m : Int) : Int := m / 64 % 64
def rBc (m : Int) : Int := m / 4096
def rLo (s : Int) : Int := if s = 4 then 3 else if s = 7 then 1 else if s = 0 then 2 else if s = 60 then 12 else if s = 63 then 4 else if s = 56 then 8 else 0
def rAn (R l : Int) : Int := (Int32.ofInt R &&& (Int32.ofInt l ^^^ -1)).toInt
def rHas (R c : Int) : Prop := ¬ (Int32.ofInt R &&& Int32.ofInt c) = 0
def rWh (q : rQ) (m : Int) : Int := if q.1 (rFr m) % 8 = 1 ∧ rTo m = q.2.2.2 then 8 * (rFr m / 8) + rTo m % 8 else rTo m
def rM1 (q : rQ) (m : Int) : Int → Int := rUp q.1 (rWh q m) 0
def rM2 (q : rQ) (m : Int) : Int → Int := rUp (rM1 q m) (rFr m) 0
def rM3 (q : rQ) (m : Int) : Int → Int := rUp (rM2 q m) (rTo m) (if 0 < rBc m then rBc m + 8 * q.2.1 else q.1 (rFr m))
def rCo (f t : Int) : Int := if f < t then f + 3 else f - 4
def rOv (f t : Int) : Int := (f + t) / 2
def rIsC (q : rQ) (m : Int) : Prop := q.1 (rFr m) % 8 = 6 ∧ (rTo m - rFr m = 2 ∨ rFr m - rTo m = 2)
def rM4c (q : rQ) (m : Int) : Int → Int := rUp (rUp (rM3 q m) (rOv (rFr m) (rTo m)) (rM3 q m (rCo (rFr m) (rTo m)))) (rCo (rFr m) (rTo m)) 0
def rIsC_d (q : rQ) (m : Int) : Decidable (rIsC q m) := by unfold rIsC; exact inferInstance
def rM4 (q : rQ) (m : Int) : Int → Int := fun i => @ite _ (rIsC q m) (rIsC_d q m) (rM4c q m i) (rM3 q m i)
def rTwo (q : rQ) (m : Int) : Prop := q.1 (rFr m) % 8 = 1 ∧ (rTo m - rFr m = 16 ∨ rFr m - rTo m = 16)
def rNbr (M : Int → Int) (t f v : Int) : Prop := 0 ≤ rSp t f 0 ∧ M (rSp t f 0) = v
def rPa (q : rQ) (m : Int) : Prop := rTwo q m ∧ (rNbr (rM4 q m) (rTo m) (-1) (1 + 8 * (1 - q.2.1)) ∨ rNbr (rM4 q m) (rTo m) 1 (1 + 8 * (1 - q.2.1)))
def rPa_d (q : rQ) (m : Int) : Decidable (rPa q m) := by unfold rPa rTwo rNbr; exact inferInstance
def rNp (q : rQ) (m : Int) : Int := @ite _ (rPa q m) (rPa_d q m) ((rFr m + rTo m) / 2) (-1)
def rMk (q : rQ) (m : Int) : rQ := (rM4 q m, 1 - q.2.1, rAn (rAn q.2.2.1 (rLo (rFr m))) (rLo (rTo m)), rNp q m)
def rS1 (p : rP) (v : jv) : rP := match p.2, v with
  | none, .inl x => (p.1, some x.toInt)
  | some m, .inr _ => (rMk p.1 m, none)
  | some _, .inl x => ((p.1.1, p.1.2.1, p.1.2.2.1, x.toInt), none)
  | none, .inr _ => (p.1, some 0)
theorem rSh_mk {p : rP} {a : Nat} {m : Int32} (h : p.2 = none) : rSh rS1 p [rR a, rI m] = (rMk p.1 m.toInt, none) := by
  obtain ⟨q, o⟩ := p
  obtain rfl : o = none := h
  rfl
theorem rSh_n1 {p : rP} {a : Nat} {m : Int32} (h : (rSh rS1 p [rR a, rI m]).2 = none) : p.2 = none := by
  obtain ⟨q, o | z⟩ := p
  · rfl
  · cases (show (some (0 : Int)) = none from h)
theorem rSh_n2 {p : rP} {x y : Int32} (h : (rSh rS1 p [rI x, rI y]).2 = none) : p.2 = none := by
  obtain ⟨q, o | z⟩ := p
  · rfl
  · cases (show (some x.toInt) = none from h)
theorem rSh_any {p : rP} {a b : Nat} {m : Int32} : rSh rS1 p [rR a, rI m] = rSh rS1 p [rR b, rI m] := by
  obtain ⟨q, o | z⟩ := p <;> rfl
theorem rHas_i {R c : Int} {x y : Int32} (hR : R = x.toInt) (hc : c = y.toInt) : rHas R c ↔ ¬ x &&& y = 0 := by
  unfold rHas
  rw [hR, hc, Int32.ofInt_toInt, Int32.ofInt_toInt]
theorem rSh_pa {p : rP} {x y : Int32} (h : p.2 = none) : rSh rS1 p [rI x, rI y] = ((p.1.1, p.1.2.1, p.1.2.2.1, x.toInt), none) := by
  obtain ⟨q, o⟩ := p
  obtain rfl : o = none := h
  rfl
/-- where a man may go -/
def rUpw (q : rQ) : Int := 1 - 2 * q.2.1
def rPF (q : rQ) (s u : Int) : Prop := 0 ≤ rSp s 0 (rUpw q) ∧ q.1 (rSp s 0 (rUpw q)) = 0 ∧ (u = rSp s 0 (rUpw q) ∨ (s / 8 = 1 + 5 * q.2.1 ∧ u = rSp (rSp s 0 (rUpw q)) 0 (rUpw q) ∧ q.1 u = 0))
def rTk (q : rQ) (u : Int) : Prop := (¬ q.1 u = 0 ∧ q.1 u / 8 = 1 - q.2.1) ∨ u = q.2.2.2
def rPT (q : rQ) (s f u : Int) : Prop := (f = -1 ∨ f = 1) ∧ 0 ≤ u ∧ u = rSp s f (rUpw q) ∧ rTk q u
def rPG (q : rQ) (s u : Int) : Prop := rPF q s u ∨ ∃ f, rPT q s f u
def rChk (M : Int → Int) (b : Int) : Prop := ∃ s, rKg M b s ∧ rAk M s (1 - b)
def rCa (q : rQ) (h : Int) : Prop := rHas q.2.2.1 ((if h = 1 then 1 else 2) * (if q.2.1 = 0 then 1 else 4)) ∧ (∀ j, 56 * q.2.1 + (if h = 1 then 5 else 1) ≤ j → j < 56 * q.2.1 + (if h = 1 then 7 else 4) → q.1 j = 0) ∧ ¬ rChk q.1 q.2.1 ∧ ¬ rAk q.1 (56 * q.2.1 + (if h = 1 then 5 else 3)) (1 - q.2.1)
def rGO (q : rQ) (s u : Int) : Prop := (q.1 s % 8 = 1 ∧ rPG q s u) ∨ (¬ q.1 s % 8 = 1 ∧ (rRe q.1 (q.1 s % 8) s u ∨ (q.1 s % 8 = 6 ∧ s = 56 * q.2.1 + 4 ∧ ((rCa q 1 ∧ u = s + 2) ∨ (rCa q 0 ∧ u = s - 2)))))
def rOwn (q : rQ) (s : Int) : Prop := ¬ q.1 s = 0 ∧ q.1 s / 8 = q.2.1
def rLm (q : rQ) (m : Int) : Prop := 0 ≤ m ∧ m ≤ 24575 ∧ rOwn q (rFr m) ∧ ¬ rOwn q (rTo m) ∧ rGO q (rFr m) (rTo m) ∧ ((q.1 (rFr m) % 8 = 1 ∧ (rTo m < 8 ∨ 55 < rTo m) ∧ 2 ≤ rBc m ∧ rBc m ≤ 5) ∨ (¬ (q.1 (rFr m) % 8 = 1 ∧ (rTo m < 8 ∨ 55 < rTo m)) ∧ rBc m = 0))
/-- a good position -/
def rVal (M : Int → Int) : Prop := ∀ s, M s = 0 ∨ (0 ≤ s ∧ s ≤ 63 ∧ ((1 ≤ M s ∧ M s ≤ 6) ∨ (9 ≤ M s ∧ M s ≤ 14)))
def rKs (M : Int → Int) : Prop := ∀ b, 0 ≤ b → b ≤ 1 → ∃ s, 0 ≤ s ∧ s ≤ 63 ∧ M s = 8 * b + 6 ∧ ∀ t, M t = 8 * b + 6 → t = s
def rPs (q : rQ) : Prop := q.2.2.2 = -1 ∨ (0 ≤ q.2.2.2 ∧ q.2.2.2 ≤ 63 ∧ q.1 q.2.2.2 = 0 ∧ ((q.2.1 = 0 ∧ q.2.2.2 / 8 = 5 ∧ q.1 (q.2.2.2 - 8) = 9) ∨ (q.2.1 = 1 ∧ q.2.2.2 / 8 = 2 ∧ q.1 (q.2.2.2 + 8) = 1)))
def rGd (q : rQ) : Prop := 0 ≤ q.2.1 ∧ q.2.1 ≤ 1 ∧ rVal q.1 ∧ rKs q.1 ∧ rPs q ∧ ∀ s, q.1 s = 8 * (1 - q.2.1) + 6 → ¬ rAk q.1 s q.2.1
def rRX (K : Nat → Nat) (n : Nat) (σ : Nat → jcell) (a : Nat) (q : rQ) : Prop := rMe K n σ a q.1 ∧ (∃ v : Int32, rOb K n σ a 88 3 (rI v) ∧ v.toInt = q.2.1) ∧ (∃ v : Int32, rOb K n σ a 88 4 (rI v) ∧ v.toInt = q.2.2.1) ∧ (∃ v : Int32, rOb K n σ a 88 5 (rI v) ∧ v.toInt = q.2.2.2)
theorem rRX_f {K : Nat → Nat} {n : Nat} {σ : Nat → jcell} {a f c : Nat} {z : Int} {x : Int32} {fs : List jv} (h : ∃ v : Int32, rOb K n σ a 88 f (rI v) ∧ v.toInt = z) (e1 : σ a = .inr (c, fs)) (e2 : fs[f]? = some (rI x)) : z = x.toInt := by
  obtain ⟨v, ⟨-, -, c', fs', e3, e4⟩, rfl⟩ := h
  rw [e1] at e3
  cases e3
  rw [e2] at e4
  cases e4
  rfl
theorem rMg_up {ko f kr : Nat} {K : Nat → Nat} {n : Nat} {σ : Nat → jcell} {a b c : Nat} {fs : List jv} {M : Int → Int} {i v : Int32} (h : rMg ko f kr K n σ a M) (e1 : σ a = .inr (c, fs)) (e2 : fs[f]? = some (rR b)) (h0 : 0 ≤ i.toInt) (h1 : i.toInt ≤ 63) : rMg ko f kr K n (jup σ b (jsto (σ b) i.toNatClampNeg v)) a (rUp M i.toInt v.toInt) := by
  obtain ⟨g, ⟨r, ⟨ha, hk, c', fs', e4, e5⟩, h3, h4, e6⟩, rfl⟩ := h
  rw [e1] at e4
  cases e4
  rw [e2] at e5
  cases e5
  have hab : ¬ a = b := by
    intro e
    subst e
    rw [e1] at e6
    cases e6
  refine ⟨upd g i.toNatClampNeg v, ⟨b, ⟨ha, hk, c, fs, by rw [jup_n hab]; exact e1, e2⟩, h3, h4, by rw [jup_s, e6]; rfl⟩, ?_⟩
  funext j
  unfold rUp rMn upd
  have hi : i.toNatClampNeg = i.toInt.toNat := rfl
  by_cases c1 : j = i.toInt
  · rw [if_pos c1, if_pos (by omega), if_pos (by rw [hi]; omega)]
  · rw [if_neg c1]
    by_cases c2 : 0 ≤ j ∧ j ≤ 63
    · rw [if_pos c2, if_pos c2, if_neg (by rw [hi]; omega)]
    · rw [if_neg c2, if_neg c2]
