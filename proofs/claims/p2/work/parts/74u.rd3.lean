/-! rows of the reference's Board; lists; what takeBack leaves -/
def rUD (K : Nat → Nat) (n : Nat) (σ : Nat → jcell) (a : Nat) (far : Int) (q : rQ) (m : Int) : Prop := 0 ≤ far ∧ (∃ g, rRo K n σ a 88 15 97 11 g ∧ (g far.toNat).toInt = q.1 (rFr m)) ∧ (∃ g, rRo K n σ a 88 16 98 11 g ∧ (g far.toNat).toInt = q.1 (rWh q m)) ∧ (∃ g, rRo K n σ a 88 17 99 11 g ∧ (g far.toNat).toInt = rWh q m) ∧ (∃ g, rRo K n σ a 88 18 100 11 g ∧ (g far.toNat).toInt = q.2.2.1) ∧ (∃ g, rRo K n σ a 88 19 101 11 g ∧ (g far.toNat).toInt = q.2.2.2)
theorem rRo_c {K : Nat → Nat} {n : Nat} {σ : Nat → jcell} {a b k f kr len c m i : Nat} {fs : List jv} {ty : FieldType} {g g' : Nat → Int32} (h : rRo K n σ a k f kr len g') (e1 : σ a = .inr (c, fs)) (e2 : fs[f]? = some (rR b)) (e3 : σ b = .inl (ty, m, .inl g)) {v : Int32} (hv : v = g i) : (g' i).toInt = v.toInt := by
  obtain ⟨r, ⟨-, -, c', fs', e4, e5⟩, -, -, e6⟩ := h
  rw [e1] at e4
  cases e4
  rw [e2] at e5
  cases e5
  rw [e3] at e6
  cases e6
  rw [hv]
theorem rRo_of {K : Nat → Nat} {n : Nat} {σ : Nat → jcell} (hH : aH fa_T K n σ) {a b k f kr len c : Nat} {fs : List jv} {iv : Int × Int} {el : List (Nat × Nat × Int × Int × Int)} (ha : a < n) (hk : K a = k) (e1 : σ a = .inr (c, fs)) (e2 : fs[f]? = some (rR b)) (hb : b < n) (hkb : K b = kr) (t3 : fa_T[kr]? = some (.inl (.int, len, iv, el))) : ∃ g, rRo K n σ a k f kr len g := by
  have h5 := hH b hb _ (by rw [hkb]; exact t3)
  obtain ⟨g, e3, -⟩ := aCe_arr h5 (show ¬ FieldType.int = FieldType.long by decide)
  exact ⟨g, b, ⟨ha, hk, c, fs, e1, e2⟩, hb, hkb, e3⟩
theorem rRo_up {K : Nat → Nat} {n : Nat} {σ : Nat → jcell} {a b k f kr len c : Nat} {fs : List jv} {g : Nat → Int32} {i : Nat} {v : Int32} (h : rRo K n σ a k f kr len g) (e1 : σ a = .inr (c, fs)) (e2 : fs[f]? = some (rR b)) : rRo K n (jup σ b (jsto (σ b) i v)) a k f kr len (upd g i v) := by
  obtain ⟨r, ⟨ha, hk, c', fs', e4, e5⟩, h3, h4, e6⟩ := h
  rw [e1] at e4
  cases e4
  rw [e2] at e5
  cases e5
  have hab : ¬ a = b := by
    intro e
    subst e
    rw [e1] at e6
    cases e6
  exact ⟨b, ⟨ha, hk, c, fs, by rw [jup_n hab]; exact e1, e2⟩, h3, h4, by rw [jup_s, e6]; rfl⟩
def rT0c (q : rQ) (m : Int) : Int → Int := rUp (rUp (rM4c q m) (rCo (rFr m) (rTo m)) (rM4c q m (rOv (rFr m) (rTo m)))) (rOv (rFr m) (rTo m)) 0
def rT0 (q : rQ) (m : Int) : Int → Int := fun i => @ite _ (rIsC q m) (rIsC_d q m) (rT0c q m i) (rM4 q m i)
def rT1 (q : rQ) (m : Int) : Int → Int := rUp (rT0 q m) (rTo m) 0
def rT2 (q : rQ) (m : Int) : Int → Int := rUp (rT1 q m) (rWh q m) (q.1 (rWh q m))
def rT3 (q : rQ) (m : Int) : Int → Int := rUp (rT2 q m) (rFr m) (q.1 (rFr m))
def rLF (K : Nat → Nat) (n : Nat) (σ : Nat → jcell) (a : Nat) (far c : Int) (q : rQ) : Prop := ∃ g, rRo K n σ a 88 21 103 20480 g ∧ (0 ≤ far → ∀ j : Int, 0 ≤ j → j < c → rLm q (g (2048 * far + j).toNat).toInt ∧ rGd (rMk q (g (2048 * far + j).toNat).toInt))
def rCT (K : Nat → Nat) (n : Nat) (σ : Nat → jcell) (a : Nat) (far c : Int) : Prop := 0 ≤ far ∧ ∃ g, rRo K n σ a 88 22 104 10 g ∧ (g far.toNat).toInt = c
/-- squares that a man of a kind may at most come to, and how many moves -/
def rSup (k s t : Int) : Bool := if k = 1 then (decide (-1 ≤ t % 8 - s % 8) && decide (t % 8 - s % 8 ≤ 1) && (decide (t / 8 - s / 8 = 1) || decide (t / 8 - s / 8 = -1))) || (decide (t % 8 = s % 8) && (decide (t / 8 - s / 8 = 2) || decide (t / 8 - s / 8 = -2))) else if k = 2 then decide ((t % 8 - s % 8) * (t % 8 - s % 8) + (t / 8 - s / 8) * (t / 8 - s / 8) = 5) else if k = 6 then (decide (1 ≤ (t % 8 - s % 8) * (t % 8 - s % 8) + (t / 8 - s / 8) * (t / 8 - s / 8)) && decide ((t % 8 - s % 8) * (t % 8 - s % 8) + (t / 8 - s / 8) * (t / 8 - s / 8) ≤ 2)) || decide (t = s + 2) || decide (t = s - 2) else (decide (k = 3 ∨ k = 5) && decide (¬ t = s) && (decide (t % 8 - s % 8 = t / 8 - s / 8) || decide (t % 8 - s % 8 = -(t / 8 - s / 8)))) || (decide (k = 4 ∨ k = 5) && decide (¬ t = s) && (decide (t % 8 = s % 8) || decide (t / 8 = s / 8)))
def rWt (k s t : Int) : Int := if rSup k s t then (if k = 1 ∧ (t < 8 ∨ 55 < t) then 4 else 1) else 0
def rSm (k s : Int) : Nat → Int
  | 0 => 0
  | t + 1 => rSm k s t + rWt k s t
theorem rWt_0 {k s t : Int} : 0 ≤ rWt k s t := by
  unfold rWt
  split
  · split <;> omega
  · omega
theorem rSm_mo {k s : Int} : ∀ {t d : Nat}, rSm k s t ≤ rSm k s (t + d)
  | t, 0 => Int.le_refl _
  | t, d + 1 => by
    have h := rSm_mo (k := k) (s := s) (t := t) (d := d)
    have h2 := rWt_0 (k := k) (s := s) (t := ((t + d : Nat) : Int))
    show rSm k s t ≤ rSm k s (t + d) + rWt k s ((t + d : Nat) : Int)
    omega
theorem rSm_b0 : ∀ (k : Fin 8) (s : Fin 64), rSm (k.val : Int) (s.val : Int) 64 ≤ 31 := by decide +kernel
theorem rSm_b {k s : Int} {t : Nat} (h0 : 0 ≤ k) (h1 : k ≤ 7) (h2 : 0 ≤ s) (h3 : s ≤ 63) (h4 : t ≤ 64) : rSm k s t ≤ 31 := by
  have h := rSm_b0 ⟨k.toNat, by omega⟩ ⟨s.toNat, by omega⟩
  dsimp only at h
  rw [show ((k.toNat : Nat) : Int) = k by omega, show ((s.toNat : Nat) : Int) = s by omega] at h
  have h5 := rSm_mo (k := k) (s := s) (t := t) (d := 64 - t)
  rw [show t + (64 - t) = 64 by omega] at h5
  omega
def rLs (q : rQ) (f t : Int) : Prop := q.1 f % 8 = 1 ∧ (t < 8 ∨ 55 < t)
def rNo (q : rQ) (f t b : Int) : Prop := ∀ m, rLm q m → rGd (rMk q m) → ¬ (rFr m < f ∨ (rFr m = f ∧ (rTo m < t ∨ (rTo m = t ∧ rBc m < b))))
def rCB (q : rQ) (f t n : Int) : Prop := n ≤ 31 * f + rSm (q.1 f % 8) f t.toNat ∧ (n = 0 → rNo q f t 0)
def rCJ (q : rQ) (f t b n : Int) : Prop := (0 ≤ q.2.1 ∧ q.2.1 ≤ 1) ∧ rOwn q f ∧ ¬ rOwn q t ∧ rGO q f t ∧ ((rLs q f t ∧ n ≤ 31 * f + rSm (q.1 f % 8) f t.toNat + (b - 2)) ∨ (¬ rLs q f t ∧ b ≤ 1 ∧ n ≤ 31 * f + rSm (q.1 f % 8) f t.toNat + b)) ∧ (n = 0 → rNo q f t b)
