/-! what the facts say: the class's Board -/
abbrev fQ : Type := (Nat → Int32) × (Nat → Int32)
abbrev fP : Type := fQ ⊕ fQ
def fq (p : fP) : fQ := match p with
  | .inl q => q
  | .inr q => q
def fRc (s i : Int) : Int := if i = 0 then 7 - s / 8 else if i = 1 then s / 8 else if i = 2 then 7 - s % 8 else if i = 3 then s % 8 else if i = 4 then min (7 - s / 8) (7 - s % 8) else if i = 5 then min (7 - s / 8) (s % 8) else if i = 6 then min (s / 8) (7 - s % 8) else min (s / 8) (s % 8)
def fSt (i : Int) : Int := if i = 0 then 8 else if i = 1 then -8 else if i = 2 then 1 else if i = 3 then -1 else if i = 4 then 9 else if i = 5 then 7 else if i = 6 then -7 else -9
def fSm (s i : Int) : Int := (if 0 < i then fRc s 0 else 0) + (if 1 < i then fRc s 1 else 0) + (if 2 < i then fRc s 2 else 0) + (if 3 < i then fRc s 3 else 0) + (if 4 < i then fRc s 4 else 0) + (if 5 < i then fRc s 5 else 0) + (if 6 < i then fRc s 6 else 0) + (if 7 < i then fRc s 7 else 0)
/-- a move of the class -/
def fMf (m : Int32) : Nat := (m >>> (9 &&& 31)).toNatClampNeg
def fMt (m : Int32) : Nat := (m >>> (3 &&& 31) &&& 63).toNatClampNeg
def fMb (m : Int32) : Nat := (m &&& 7).toNatClampNeg
def fOw (men F : Nat → Int32) (s k : Nat) : Prop := (men s).toInt = 8 * (F 2).toInt + k
/-- the square of the pawn that passed -/
def fPp (F : Nat → Int32) : Int := if (F 2).toInt = 0 then (F 4).toInt - 8 else (F 4).toInt + 8
def fGood (men F : Nat → Int32) : Prop := ((F 4).toInt = -1 ∨ ((0 ≤ (F 4).toInt ∧ (men (F 4).toInt.toNat).toInt = 0 ∧ (men (fPp F).toNat).toInt = 8 * (1 - (F 2).toInt) + 1 ∧ ((F 2).toInt = 0 → 40 ≤ (F 4).toInt ∧ (F 4).toInt ≤ 47) ∧ ((F 2).toInt = 1 → 16 ≤ (F 4).toInt ∧ (F 4).toInt ≤ 23)))) ∧ (∀ s : Nat, s < 2 → ((F 3).toInt / (4 ^ s : Nat) % 2 = 1 → (men (56 * s + 4)).toInt = 8 * s + 6 ∧ (men (56 * s + 7)).toInt = 8 * s + 4) ∧ ((F 3).toInt / (2 * 4 ^ s : Nat) % 2 = 1 → (men (56 * s + 4)).toInt = 8 * s + 6 ∧ (men (56 * s)).toInt = 8 * s + 4)) ∧ (0 ≤ (F 2).toInt ∧ (F 2).toInt ≤ 1) ∧ (0 ≤ (F 3).toInt ∧ (F 3).toInt ≤ 15) ∧ ∀ i, i < 64 → 0 ≤ (men i).toInt ∧ (men i).toInt ≤ 14 ∧ ¬ (men i).toInt = 7 ∧ ¬ (men i).toInt = 8
/-- a move that make and unmake can take: f, t, what it becomes -/
def fMv (men F : Nat → Int32) (f t b : Nat) : Prop := ∃ k : Nat, (1 ≤ k ∧ k ≤ 6) ∧ fOw men F f k ∧ f < 64 ∧ t < 64 ∧ b < 8 ∧ ¬ f = t ∧ (¬ b = 0 → k = 1 ∧ 2 ≤ b ∧ b ≤ 5) ∧ (k = 6 → t = f + 2 → (f : Int) = 4 + 56 * (F 2).toInt ∧ (men (f + 1)).toInt = 0 ∧ (men (f + 2)).toInt = 0 ∧ (men (f + 3)).toInt = 8 * (F 2).toInt + 4) ∧ (k = 6 → f = t + 2 → (f : Int) = 4 + 56 * (F 2).toInt ∧ (men (f - 1)).toInt = 0 ∧ (men (f - 2)).toInt = 0 ∧ (men (f - 4)).toInt = 8 * (F 2).toInt + 4) ∧ (k = 1 → (t = f + 16 ∨ f = t + 16) → b = 0 ∧ (men ((f + t) / 2)).toInt = 0 ∧ ((F 2).toInt = 0 → 8 ≤ f ∧ f ≤ 15 ∧ t = f + 16) ∧ ((F 2).toInt = 1 → 48 ≤ f ∧ f ≤ 55 ∧ f = t + 16))
def fM (men F : Nat → Int32) (m : Int32) : Prop := fMv men F (fMf m) (fMt m) (fMb m)
/-- the Board stands so -/
def fAt (K : Nat → Nat) (n : Nat) (σ : Nat → jcell) (a : Nat) (men F : Nat → Int32) : Prop := a < n ∧ K a = 26 ∧ ∃ (fs : List jv) (r : Nat) (g : Nat → Int32), σ a = .inr (10, fs) ∧ fs[0]? = some (.inr (.inr (some (.inl r)))) ∧ r < n ∧ K r = 27 ∧ σ r = .inl (.int, 64, .inl g) ∧ (∀ i, i < 64 → g i = men i) ∧ fs[2]? = some (.inl (F 2)) ∧ fs[3]? = some (.inl (F 3)) ∧ fs[4]? = some (.inl (F 4)) ∧ fs[5]? = some (.inl (F 5))
def fRw (k : Nat) : Prop := k = 9 ∨ k = 16 ∨ k = 22 ∨ k = 24
/-- moves of a row between two places -/
def fLl (K : Nat → Nat) (n : Nat) (σ : Nat → jcell) (a : Nat) (P : Int → Prop) (Q : Int32 → Prop) : Prop := a < n ∧ fRw (K a) ∧ ∃ (m : Nat) (g : Nat → Int32), σ a = .inl (.int, m, .inl g) ∧ ∀ k : Nat, P k → Q (g k)
abbrev fI (x : Int32) : jv := .inl x
abbrev fR (a : Nat) : jv := .inr (.inr (some (.inl a)))
/-- a good position of the class -/
def fGk (p : fP) : Prop := fGood (fq p).1 (fq p).2 ∧ ∃ q, p = .inl q
def fB (K : Nat → Nat) (n : Nat) (p : fP) (k : Nat) (vs : List jv) (σ : Nat → jcell) : Prop := match k with
  | 1 => ∃ (a : Nat), vs = [fR a] ∧ fAt K n σ a (fq p).1 (fq p).2 ∧ fGk p
  | 2 => ∃ (a : Nat) (lo hi : Int32), vs = [fR a, fI lo, fI hi] ∧ fLl K n σ a (fun k => lo.toInt ≤ k ∧ k < hi.toInt) (fM (fq p).1 (fq p).2)
  | 3 => ∃ (m : Int32), vs = [fI m] ∧ fM (fq p).1 (fq p).2 m
  | 4 => ∃ (m : Int32) (u : Int64), vs = [fI m, .inr (.inl u)] ∧ u = bUd (fq p).2 ((fq p).1 (bWh (fq p).1 (fq p).2 (fMf m) (fMt m)).toNatClampNeg).toNatClampNeg ∧ 0 ≤ ((fq p).2 5).toInt ∧ fGk p
  | 5 => ∃ (v : Int32), vs = [fI v] ∧ (fq p).2 5 = v
  | 6 => ∃ (a : Nat) (x1 y1 x2 y2 x3 y3 : Int32), vs = [fR a, fI x1, fI y1, fI x2, fI y2, fI x3, fI y3] ∧ fAt K n σ a (upd (upd (upd (fq p).1 x1.toNatClampNeg y1) x2.toNatClampNeg y2) x3.toNatClampNeg y3) (fq p).2 ∧ fGk p
  | 7 => ∃ s i k t : Int32, vs = [fI s, fI i, fI k, fI t] ∧ 1 ≤ k.toInt ∧ k.toInt ≤ fRc s.toInt i.toInt + 1 ∧ t.toInt = s.toInt + (k.toInt - 1) * fSt i.toInt
  | 18 => ∃ s i k t : Int32, vs = [fI s, fI i, fI k, fI t] ∧ 1 ≤ k.toInt ∧ k.toInt ≤ fRc s.toInt i.toInt ∧ t.toInt = s.toInt + k.toInt * fSt i.toInt
  | 19 => ∃ s i v : Int32, vs = [fI s, fI i, fI v] ∧ v.toInt = fRc s.toInt i.toInt
  | 22 => ∃ i v : Int32, vs = [fI i, fI v] ∧ v.toInt = fSt i.toInt
  | 23 => ∃ s i a m : Int32, vs = [fI s, fI i, fI a, fI m] ∧ m.toInt - a.toInt ≤ fSm s.toInt i.toInt
  | 24 => ∃ s i k a m : Int32, vs = [fI s, fI i, fI k, fI a, fI m] ∧ m.toInt - a.toInt ≤ fSm s.toInt i.toInt + (k.toInt - 1)
  | 25 => ∃ (s k : Int32), vs = [fI s, fI k] ∧ fOw (fq p).1 (fq p).2 s.toNatClampNeg k.toNatClampNeg
  | 26 => ∃ (a : Nat) (lo hi s : Int32), vs = [fR a, fI lo, fI hi, fI s] ∧ fLl K n σ a (fun k => lo.toInt ≤ k ∧ k < hi.toInt) (fun m => fM (fq p).1 (fq p).2 m ∧ fMf m = s.toNatClampNeg)
  | 27 => ∃ (a : Nat) (lo hi s : Int32), vs = [fR a, fI lo, fI hi, fI s] ∧ fLl K n σ a (fun k => lo.toInt ≤ k ∧ k < hi.toInt + 1) (fun m => fM (fq p).1 (fq p).2 m ∧ fMf m = s.toNatClampNeg)
  | 28 => ∃ (a : Nat) (s : Int32), vs = [fR a, fI s] ∧ (∃ v : Int32, fAt K n σ a (upd (fq p).1 s.toNatClampNeg v) (fq p).2) ∧ fGk p
  | 30 => ∃ (m s : Int32), vs = [fI m, fI s] ∧ fM (fq p).1 (fq p).2 m ∧ fMf m = s.toNatClampNeg
  | 31 => ∃ k : Int32, vs = [fI k] ∧ 3 ≤ k.toInt ∧ k.toInt ≤ 5
  | 32 => ∃ (a : Nat) (lo hi : Int32), vs = [fR a, fI lo, fI hi] ∧ fLl K n σ a (fun k => lo.toInt ≤ k ∧ k < hi.toInt + 1) (fM (fq p).1 (fq p).2)
  | 33 => ∃ (a : Nat) (lo hi s : Int32), vs = [fR a, fI lo, fI hi, fI s] ∧ fLl K n σ a (fun k => lo.toInt < k ∧ k < hi.toInt) (fun m => fM (fq p).1 (fq p).2 m ∧ fMf m = s.toNatClampNeg)
  | 34 => ∃ (s : Int32), vs = [fI s] ∧ fOw (fq p).1 (fq p).2 s.toNatClampNeg 1
  | 35 => ∃ (s : Int32), vs = [fI s] ∧ fOw (fq p).1 (fq p).2 s.toNatClampNeg 2
  | 36 => ∃ (s : Int32), vs = [fI s] ∧ fOw (fq p).1 (fq p).2 s.toNatClampNeg 6
  | 37 => ∃ s i t : Int32, vs = [fI s, fI i, fI t] ∧ ¬ t.toInt = s.toInt ∧ ¬ t.toInt = s.toInt + 2 ∧ ¬ t.toInt = s.toInt - 2
  | 38 => ∃ (s : Int32), vs = [fI s] ∧ ((fq p).1 s.toNatClampNeg).toInt = 0
  | 39 => ∃ (s v : Int32), vs = [fI s, fI v] ∧ (fq p).1 s.toNatClampNeg = v
  | 40 => ∃ (s v : Int32), vs = [fI s, fI v] ∧ (fq p).1 (s.toInt + 1).toNat = v
  | 41 => ∃ (s v : Int32), vs = [fI s, fI v] ∧ (fq p).1 (s.toInt + 2).toNat = v
  | 42 => ∃ (s v : Int32), vs = [fI s, fI v] ∧ (fq p).1 (s.toInt - 1).toNat = v
  | 43 => ∃ (s v : Int32), vs = [fI s, fI v] ∧ (fq p).1 (s.toInt - 2).toNat = v
  | 44 => ∃ (s : Int32), vs = [fI s] ∧ ((fq p).1 (s.toInt + 3).toNat).toInt = 8 * ((fq p).2 2).toInt + 4
  | 45 => ∃ (s : Int32), vs = [fI s] ∧ ((fq p).1 (s.toInt - 4).toNat).toInt = 8 * ((fq p).2 2).toInt + 4
  | 46 => ∃ (v : Int32), vs = [fI v] ∧ (v.toInt < 0 ∨ fM (fq p).1 (fq p).2 v)
  | 47 => ∃ (a : Nat) (hi : Int32), vs = [fR a, fI hi] ∧ fLl K n σ a (fun k => k < hi.toInt) (fM (fq p).1 (fq p).2)
  | _ => False
/-- a move made -/
def fPl (q : fQ) (m : Int32) : fQ := (bMen q.1 (fMf m) (fMt m) (bWh q.1 q.2 (fMf m) (fMt m)).toNatClampNeg (bQ (q.1 (fMf m)).toNatClampNeg (fMb m)) (q.1 (fMf m)).toNatClampNeg (q.2 2).toNatClampNeg, bF q.2 (bMen q.1 (fMf m) (fMt m) (bWh q.1 q.2 (fMf m) (fMt m)).toNatClampNeg (bQ (q.1 (fMf m)).toNatClampNeg (fMb m)) (q.1 (fMf m)).toNatClampNeg (q.2 2).toNatClampNeg) (fMf m) (fMt m) (q.1 (fMf m)).toNatClampNeg (q.1 (bWh q.1 q.2 (fMf m) (fMt m)).toNatClampNeg).toNatClampNeg)
def fP1 (p : fP) (v : jv) : fP := match p, v with
  | .inl q, .inl m => .inl (fPl q m)
  | p, _ => p
def fSh (p : fP) : List jv → fP
  | [] => p
  | v :: r => fP1 (fSh p r) v
theorem fSh_app (p : fP) : ∀ (a b : List jv), fSh p (a ++ b) = fSh (fSh p b) a
  | [], _ => rfl
  | v :: a, b => by
    show fP1 (fSh p (a ++ b)) v = fP1 (fSh (fSh p b) a) v
    rw [fSh_app p a b]
def fF0 (K : Nat → Nat) (n : Nat) : aFt fP := fun p r vs σ => fB K n (fSh p (vs.drop (r % 16))) (r / 16) (vs.take (r % 16)) σ
def fF (K : Nat → Nat) (n : Nat) : aFt fP := fun p r vs σ => if r < 65536 then fF0 K n p r vs σ else if r < 131072 then (if 3 ≤ r % 16 then (match vs with
  | .inr (.inr (some (.inl a))) :: .inl x :: .inl y :: l => fF0 K n p (r - 65539) l (jup σ a (jsto (σ a) x.toNatClampNeg y))
  | _ => False) else False) else (if 2 ≤ r % 16 then (match vs with
  | .inr (.inr (some (.inl a))) :: y :: l => fF0 K n p (r % 131072 - 2) l (jup σ a (jstf (σ a) (r / 131072 - 1) y))
  | _ => False) else False)
theorem fF0_sh (K : Nat → Nat) (n : Nat) (p : fP) (r : Nat) (vs ms : List jv) (σ : Nat → jcell) (h : r % 16 ≤ vs.length) : fF0 K n p r (vs ++ ms) σ ↔ fF0 K n (fSh p ms) r vs σ := by
  unfold fF0
  rw [List.drop_append_of_le_length h, List.take_append_of_le_length h, fSh_app]
theorem fF_sh (K : Nat → Nat) (n : Nat) : aShf (fF K n) fSh := by
  intro p r vs ms σ h0 h
  unfold fF
  split
  · exact fF0_sh K n p r vs ms σ h
  · split
    · split
      next h3 =>
        match vs, h with
        | [], h => simp at h; omega
        | [_], h => simp at h; omega
        | [_, _], h => simp at h; omega
        | v0 :: v1 :: v2 :: l, h =>
          rcases v0 with x | x | _ | a | j
          · exact Iff.rfl
          · exact Iff.rfl
          · exact Iff.rfl
          · rcases v1 with x | x
            · rcases v2 with y | y
              · exact fF0_sh K n p (r - 65539) l ms _ (by simp at h; omega)
              · exact Iff.rfl
            · exact Iff.rfl
          · exact Iff.rfl
      next => exact Iff.rfl
    · split
      next h3 =>
        match vs, h with
        | [], h => simp at h; omega
        | [_], h => simp at h; omega
        | v0 :: v1 :: l, h =>
          rcases v0 with x | x | _ | a | j
          · exact Iff.rfl
          · exact Iff.rfl
          · exact Iff.rfl
          · exact fF0_sh K n p (r % 131072 - 2) l ms _ (by simp at h; omega)
          · exact Iff.rfl
      next => exact Iff.rfl
theorem fF_pd1 (K : Nat → Nat) (n : Nat) (p : fP) (r' r a : Nat) (x y : Int32) (vs : List jv) (σ : Nat → jcell) (e : r' = r + 65539) (hr : r < 65533) (h : fF K n p r' (.inr (.inr (some (.inl a))) :: .inl x :: .inl y :: vs) σ) : fF K n p r vs (jup σ a (jsto (σ a) x.toNatClampNeg y)) := by
  unfold fF at h ⊢
  rw [if_neg (by omega), if_pos (by omega)] at h
  rw [if_pos (by omega)]
  split at h
  next =>
    dsimp only at h
    rw [show r' - 65539 = r by omega] at h
    exact h
  next => exact h.elim
theorem fF_pd2 (K : Nat → Nat) (n : Nat) (p : fP) (r' r a f : Nat) (y : jv) (vs : List jv) (σ : Nat → jcell) (e : r' = r + 131072 * (f + 1) + 2) (hr : r < 65534) (h : fF K n p r' (.inr (.inr (some (.inl a))) :: y :: vs) σ) : fF K n p r vs (jup σ a (jstf (σ a) f y)) := by
  unfold fF at h ⊢
  rw [if_neg (by omega), if_neg (by omega)] at h
  rw [if_pos (by omega)]
  split at h
  next =>
    dsimp only at h
    rw [show r' % 131072 - 2 = r by omega, show r' / 131072 - 1 = f by omega] at h
    exact h
  next => exact h.elim
theorem fF_pd (K : Nat → Nat) (n : Nat) : aPd (fF K n) := ⟨fun p r a x y vs σ _ hr => fF_pd1 K n p _ r a x y vs σ rfl hr, fun p r a f y vs σ _ hr => fF_pd2 K n p _ r a f y vs σ rfl hr⟩
theorem fF_b {K : Nat → Nat} {n : Nat} {p : fP} {r : Nat} {vs : List jv} {σ : Nat → jcell} (h : r < 65536) (hl : vs.length = r % 16) : fF K n p r vs σ ↔ fB K n p (r / 16) vs σ := by
  unfold fF fF0
  rw [if_pos h, ← hl, List.drop_length, List.take_length]
  exact Iff.rfl
theorem fF_p {K : Nat → Nat} {n : Nat} {p : fP} {r a : Nat} {x y : Int32} {vs : List jv} {σ : Nat → jcell} (h : r < 65533) (h2 : r % 16 ≤ 12) (hl : vs.length = r % 16) (hb : fB K n p (r / 16) vs (jup σ a (jsto (σ a) x.toNatClampNeg y))) : fF K n p (r + 65539) (fR a :: fI x :: fI y :: vs) σ := by
  unfold fF
  rw [if_neg (by omega), if_pos (by omega), if_pos (by omega)]
  dsimp only
  rw [show r + 65539 - 65539 = r by omega]
  unfold fF0
  rw [← hl, List.drop_length, List.take_length]
  exact hb
def fLay (K : Nat → Nat) (n : Nat) (σ : Nat → jcell) (a n0 : Nat) : Prop := a < n0 ∧ n0 + 11 ≤ n ∧ (∀ j, j < 11 → K (n0 + j) = 27 + j) ∧ ∃ fs : List jv, σ a = .inr (10, fs) ∧ fs[0]? = some (fR (n0 + 0)) ∧ fs[1]? = some (fR (n0 + 1)) ∧ fs[7]? = some (fR (n0 + 2)) ∧ fs[8]? = some (fR (n0 + 3)) ∧ fs[9]? = some (fR (n0 + 4)) ∧ fs[10]? = some (fR (n0 + 5)) ∧ fs[11]? = some (fR (n0 + 6)) ∧ fs[12]? = some (fR (n0 + 7)) ∧ fs[13]? = some (fR (n0 + 8)) ∧ fs[14]? = some (fR (n0 + 9)) ∧ fs[15]? = some (fR (n0 + 10))
/-- what stands fast of the picture: tables and layouts -/
def fJX (K : Nat → Nat) (n : Nat) (σ : Nat → jcell) : Prop := (∀ a, a < n → K a = 34 → ∃ g : Nat → Int32, σ a = .inl (.int, 512, .inl g) ∧ ∀ s i : Nat, s < 64 → i < 8 → (g (8 * s + i)).toInt = fRc s i) ∧ (∀ a, a < n → K a = 35 → ∃ g : Nat → Int32, σ a = .inl (.int, 512, .inl g) ∧ ∀ s i : Nat, s < 64 → i < 8 → (g (8 * s + i)).toInt = -1 ∨ (¬ (g (8 * s + i)).toInt = s ∧ ¬ (g (8 * s + i)).toInt = (s : Int) + 2 ∧ ¬ (g (8 * s + i)).toInt = (s : Int) - 2)) ∧ (∀ a, a < n → K a = 26 → ∃ n0, fLay K n σ a n0)
theorem fTab0 : ∀ (s : Fin 64) (i : Fin 8), 0 ≤ fRc (s.val : Int) (i.val : Int) ∧ fRc (s.val : Int) (i.val : Int) ≤ 7 ∧ 0 ≤ fSm (s.val : Int) (i.val : Int) ∧ fSm (s.val : Int) ((i.val : Int) + 1) = fSm (s.val : Int) (i.val : Int) + fRc (s.val : Int) (i.val : Int) ∧ fSm (s.val : Int) ((i.val : Int) + 1) ≤ 27 := by decide +kernel
theorem fTab {s i : Int} (h1 : 0 ≤ s) (h2 : s ≤ 63) (h3 : 0 ≤ i) (h4 : i ≤ 7) : 0 ≤ fRc s i ∧ fRc s i ≤ 7 ∧ 0 ≤ fSm s i ∧ fSm s (i + 1) = fSm s i + fRc s i ∧ fSm s (i + 1) ≤ 27 := by
  have h := fTab0 ⟨s.toNat, by omega⟩ ⟨i.toNat, by omega⟩
  dsimp only at h
  rw [show ((s.toNat : Nat) : Int) = s by omega, show ((i.toNat : Nat) : Int) = i by omega] at h
  exact h
theorem fRay0 : ∀ (s : Fin 64) (i : Fin 8) (k : Fin 8), 1 ≤ k.val → (k.val : Int) ≤ fRc (s.val : Int) (i.val : Int) → 0 ≤ (s.val : Int) + k.val * fSt (i.val : Int) ∧ (s.val : Int) + k.val * fSt (i.val : Int) ≤ 63 ∧ ¬ (s.val : Int) + k.val * fSt (i.val : Int) = s.val := by decide +kernel
theorem fRay {s i k : Int} (h1 : 0 ≤ s) (h2 : s ≤ 63) (h3 : 0 ≤ i) (h4 : i ≤ 7) (h5 : 1 ≤ k) (h6 : k ≤ fRc s i) : 0 ≤ s + k * fSt i ∧ s + k * fSt i ≤ 63 ∧ ¬ s + k * fSt i = s := by
  have h7 := (fTab h1 h2 h3 h4).2.1
  have h := fRay0 ⟨s.toNat, by omega⟩ ⟨i.toNat, by omega⟩ ⟨k.toNat, by omega⟩
  dsimp only at h
  rw [show ((s.toNat : Nat) : Int) = s by omega, show ((i.toNat : Nat) : Int) = i by omega, show ((k.toNat : Nat) : Int) = k by omega] at h
  exact h (by omega) h6
theorem fSt0 : ∀ (i : Fin 8), ¬ fSt (i.val : Int) = 0 ∧ ¬ fSt (i.val : Int) = 2 ∧ ¬ fSt (i.val : Int) = -2 := by decide
theorem fStn {i : Int} (h3 : 0 ≤ i) (h4 : i ≤ 7) : ¬ fSt i = 0 ∧ ¬ fSt i = 2 ∧ ¬ fSt i = -2 := by
  have h := fSt0 ⟨i.toNat, by omega⟩
  dsimp only at h
  rw [show ((i.toNat : Nat) : Int) = i by omega] at h
  exact h
theorem fMk {m : Int32} {f t b : Int} (h : m.toInt = 512 * f + 8 * t + b) (hf : 0 ≤ f ∧ f < 64) (ht : 0 ≤ t ∧ t < 64) (hb : 0 ≤ b ∧ b < 8) : (fMf m : Int) = f ∧ (fMt m : Int) = t ∧ (fMb m : Int) = b := by
  obtain ⟨c, e1, e2⟩ := aShr_l m 9
  obtain rfl := e2 9 (by decide) (by decide)
  obtain ⟨c, e3, e4⟩ := aShr_l m 3
  obtain rfl := e4 3 (by decide) (by decide)
  rw [show (2 : Int) ^ 9 = 512 by decide] at e1
  rw [show (2 : Int) ^ 3 = 8 by decide] at e3
  have k63 : (63 : Int32).toInt = 63 := by decide
  have k7 : (7 : Int32).toInt = 7 := by decide
  have e5 : (m >>> (3 &&& 31) &&& 63).toInt = (m >>> (3 &&& 31)).toInt % (63 + 1) := by
    have := aAnd_m (x := m >>> (3 &&& 31)) (y := 63) (by omega) (by decide) (by decide)
    rw [k63] at this
    exact this
  have e6 : (m &&& 7).toInt = m.toInt % (7 + 1) := by
    have := aAnd_m (x := m) (y := 7) (by omega) (by decide) (by decide)
    rw [k7] at this
    exact this
  have c1 : fMf m = (m >>> (9 &&& 31)).toInt.toNat := rfl
  have c2 : fMt m = (m >>> (3 &&& 31) &&& 63).toInt.toNat := rfl
  have c3 : fMb m = (m &&& 7).toInt.toNat := rfl
  omega
theorem fRow {T : List aKd} {K : Nat → Nat} {n : Nat} {σ : Nat → jcell} (h : aH T K n σ) {a k : Nat} (ha : a < n) (hk : K a = k) {q : FieldType × Nat × (Int × Int) × List (Nat × Nat × Int × Int × Int)} (hT : T[k]? = some (.inl q)) (hq : ¬ q.1 = .long) : ∃ g, σ a = .inl (q.1, q.2.1, .inl g) := by
  have h1 := h a ha _ (by rw [hk]; exact hT)
  obtain ⟨g, e, -⟩ := aCe_arr h1 hq
  exact ⟨g, e⟩
theorem fNc (x : Int32) : x.toNatClampNeg = x.toInt.toNat := rfl
/-- a store into a list of moves -/
theorem fLl_st {K : Nat → Nat} {n : Nat} {σ : Nat → jcell} {a : Nat} {P P' : Int → Prop} {Q : Int32 → Prop} {i : Nat} {x : Int32} (h : fLl K n σ a P Q) (hx : P' i → Q x) (hp : ∀ k : Nat, ¬ k = i → P' k → P k) : fLl K n (jup σ a (jsto (σ a) i x)) a P' Q := by
  obtain ⟨h1, h2, m, g, h3, h4⟩ := h
  refine ⟨h1, h2, m, upd g i x, by rw [jup_s, h3]; rfl, fun k hk => ?_⟩
  unfold upd
  split
  next e => subst e; exact hx hk
  next e => exact h4 k (hp k e hk)
theorem fAt_cg {K : Nat → Nat} {n : Nat} {σ : Nat → jcell} {a : Nat} {men men' F : Nat → Int32} (h : fAt K n σ a men F) (he : ∀ i, i < 64 → men i = men' i) : fAt K n σ a men' F := by
  obtain ⟨h1, h2, fs, r, g, h3, h4, h5, h6, h7, h8, h9⟩ := h
  exact ⟨h1, h2, fs, r, g, h3, h4, h5, h6, h7, fun i hi => (h8 i hi).trans (he i hi), h9⟩
/-- the Board's fields and its row, as they were read -/
theorem fAt_of {K : Nat → Nat} {n : Nat} {σ : Nat → jcell} {a c : Nat} {men F : Nat → Int32} {fs : List jv} (h : fAt K n σ a men F) (hs : σ a = .inr (c, fs)) : (∀ r : Nat, fs[0]? = some (fR r) → ∃ g : Nat → Int32, σ r = .inl (.int, 64, .inl g) ∧ (∀ i, i < 64 → g i = men i)) ∧ (∀ x : Int32, fs[2]? = some (fI x) → x = F 2) ∧ (∀ x : Int32, fs[3]? = some (fI x) → x = F 3) ∧ (∀ x : Int32, fs[4]? = some (fI x) → x = F 4) ∧ (∀ x : Int32, fs[5]? = some (fI x) → x = F 5) := by
  obtain ⟨h1, h2, fs', r, g, h3, h4, h5, h6, h7, h8, k2, k3, k4, k5⟩ := h
  rw [hs] at h3
  cases h3
  refine ⟨fun r' hr => ?_, fun x hx => ?_, fun x hx => ?_, fun x hx => ?_, fun x hx => ?_⟩
  · rw [h4] at hr
    cases hr
    exact ⟨g, h7, h8⟩
  · rw [k2] at hx; cases hx; rfl
  · rw [k3] at hx; cases hx; rfl
  · rw [k4] at hx; cases hx; rfl
  · rw [k5] at hx; cases hx; rfl
theorem fAt_st {K : Nat → Nat} {n : Nat} {σ : Nat → jcell} {a c r i : Nat} {men F : Nat → Int32} {fs : List jv} {x : Int32} (h : fAt K n σ a men F) (hs : σ a = .inr (c, fs)) (hr : fs[0]? = some (fR r)) : fAt K n (jup σ r (jsto (σ r) i x)) a (upd men i x) F := by
  obtain ⟨h1, h2, fs', r', g, h3, h4, h5, h6, h7, h8, k⟩ := h
  rw [hs] at h3
  cases h3
  rw [h4] at hr
  cases hr
  have hne : a ≠ r := by
    intro e
    rw [e, h7] at hs
    cases hs
  refine ⟨h1, h2, fs, r, upd g i x, by rw [jup_n hne]; exact hs, h4, h5, h6, by rw [jup_s, h7]; rfl, fun j hj => ?_, k⟩
  unfold upd
  split
  · rfl
  · exact h8 j hj
theorem fG_ref {K : Nat → Nat} {n k : Nat} {v : jv} (h : aG K n (.inr (some (.inl (false, k)))) v) : ∃ a, v = fR a ∧ a < n ∧ K a = k := by
  rcases aG_ref h with ⟨h, -⟩ | h
  · cases h
  · exact h

